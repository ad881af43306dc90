section SL
variable {d : Nat} {L : ex_L} {st : List Value} {h : ex_H} {Q : Option Value → ex_H → Prop} {lx : Nat} {xs : Nat → Int32} {M : Nat → Nat → Int32} {x y : Int32} {u w : Int64} {r r2 : Nat} {o0 o1 o2 o3 o4 o5 o6 o7 o8 o9 o10 o11 : Option Value}
theorem s_78_0 : Go d 78 0 L (st) h Q = Go d 78 1 L (.int (nI 0) :: st) h Q := go_ic rfl ci_i0
theorem s_78_1 : Go d 78 1 [o0, o1, o2, o3, o4, o5] (.int x :: st) h Q = Go d 78 3 [o0, o1, o2, o3, some (.int x), o5] (st) h Q := go_lo (E := (.istore 4, 0, 0, 0)) rfl rfl rfl
theorem s_78_3 : Go d 78 3 [o0, o1, o2, o3, some (.int x), o5] (st) h Q = Go d 78 5 [o0, o1, o2, o3, some (.int x), o5] (.int x :: st) h Q := go_lo (E := (.iload 4, 0, 0, 0)) rfl rfl rfl
theorem s_78_5 : Go d 78 5 [o0, o1, o2, some (.int x), o4, o5] (st) h Q = Go d 78 6 [o0, o1, o2, some (.int x), o4, o5] (.int x :: st) h Q := go_lo (E := (.iload_n 3, 0, 0, 0)) rfl rfl rfl
theorem s_78_6 : Go d 78 6 L (.int y :: .int x :: st) h Q = (if x < y then Go d 78 9 L st h Q else Go d 78 39 L st h Q) := go_icge rfl
theorem s_78_9 : Go d 78 9 [o0, some (.long u), o2, o3, o4, o5] (st) h Q = Go d 78 10 [o0, some (.long u), o2, o3, o4, o5] (.long u :: st) h Q := go_lo (E := (.lload_n 1, 0, 0, 0)) rfl rfl rfl
theorem s_78_10 : Go d 78 10 [o0, o1, o2, o3, some (.int x), o5] (st) h Q = Go d 78 12 [o0, o1, o2, o3, some (.int x), o5] (.int x :: st) h Q := go_lo (E := (.iload 4, 0, 0, 0)) rfl rfl rfl
theorem s_78_12 {a1 : Int32} {al0 : Int64} : Go (d + 1) 78 12 L [.int a1, .long al0] h Q = Go d 79 0 [some (.long al0), none, some (.int a1)] [] h (fun v h2 => Go (d + 1) 78 15 L (ap v []) h2 Q) := go_cx (E := (.invokestatic 29, 79, 0, 0)) (k' := 79) (as := [.long al0, .int a1]) rfl rfl rfl rfl rfl rfl rfl rfl
theorem s_78_15 : Go d 78 15 [o0, o1, o2, o3, o4, o5] (.int x :: st) h Q = Go d 78 17 [o0, o1, o2, o3, o4, some (.int x)] (st) h Q := go_lo (E := (.istore 5, 0, 0, 0)) rfl rfl rfl
theorem s_78_17 : Go d 78 17 [o0, o1, o2, o3, o4, some (.int x)] (st) h Q = Go d 78 19 [o0, o1, o2, o3, o4, some (.int x)] (.int x :: st) h Q := go_lo (E := (.iload 5, 0, 0, 0)) rfl rfl rfl
theorem s_78_19 : Go d 78 19 L (st) h Q = Go d 78 21 L (.int (nI 32) :: st) h Q := go_bi rfl ci_b32
theorem s_78_21 : Go d 78 21 L (.int y :: .int x :: st) h Q = (if x < y then Go d 78 31 L st h Q else Go d 78 24 L st h Q) := go_iclt rfl
theorem s_78_24 : Go d 78 24 [o0, o1, o2, o3, o4, some (.int x)] (st) h Q = Go d 78 26 [o0, o1, o2, o3, o4, some (.int x)] (.int x :: st) h Q := go_lo (E := (.iload 5, 0, 0, 0)) rfl rfl rfl
theorem s_78_26 : Go d 78 26 L (st) h Q = Go d 78 28 L (.int (nI 126) :: st) h Q := go_bi rfl ci_b126
theorem s_78_28 : Go d 78 28 L (.int y :: .int x :: st) h Q = (if y < x then Go d 78 31 L st h Q else Go d 78 33 L st h Q) := go_icle rfl
theorem s_78_31 : Go d 78 31 L (st) h Q = Go d 78 32 L (.int (-1) :: st) h Q := go_ic rfl ci_im1
theorem s_78_32 : Go d 78 32 L [.int x] h Q = Q (some (.int x)) h := go_ri rfl rfl
theorem s_78_33 : Go d 78 33 [o0, o1, o2, o3, some (.int x), o5] (st) h Q = Go d 78 36 [o0, o1, o2, o3, some (.int (x + nI 1)), o5] (st) h Q := (ci_i1 ▸ go_lo (E := (.iinc 4 1, 0, 0, 0)) rfl rfl rfl : _ = Go d 78 36 [o0, o1, o2, o3, some (.int (x + nI 1)), o5] (st) h Q)
theorem s_78_36 : Go d 78 36 L (st) h Q = Go d 78 3 L (st) h Q := go_goto rfl
theorem s_78_39 : Go d 78 39 [some (.ref r), o1, o2, o3, o4, o5] (st) h Q = Go d 78 40 [some (.ref r), o1, o2, o3, o4, o5] (.ref r :: st) h Q := go_lo (E := (.aload_n 0, 0, 0, 0)) rfl rfl rfl
theorem s_78_40 : Go d 78 40 L (.ref 28 :: st) (HP lx xs M) Q = Go d 78 43 L (.int (M 28 4) :: st) (HP lx xs M) Q := go_gf rfl rfl (by decide) rfl
theorem s_78_43 : Go d 78 43 [o0, o1, o2, some (.int x), o4, o5] (st) h Q = Go d 78 44 [o0, o1, o2, some (.int x), o4, o5] (.int x :: st) h Q := go_lo (E := (.iload_n 3, 0, 0, 0)) rfl rfl rfl
theorem s_78_44 : Go d 78 44 L (.int y :: .int x :: st) h Q = Go d 78 45 L (.int (x + y) :: st) h Q := go_op (E := (.iadd, 0, 0, 0)) rfl rfl
theorem s_78_45 : Go d 78 45 L (st) h Q = Go d 78 48 L (.int (nI 160) :: st) h Q := go_si rfl ci_s160
theorem s_78_48 : Go d 78 48 L (.int y :: .int x :: st) h Q = (if y < x then Go d 78 51 L st h Q else Go d 78 54 L st h Q) := go_icle rfl
theorem s_78_51 : Go d 78 51 L (st) h Q = Go d 78 53 L (.int (-3) :: st) h Q := go_bi rfl ci_bm3
theorem s_78_53 : Go d 78 53 L [.int x] h Q = Q (some (.int x)) h := go_ri rfl rfl
theorem s_78_54 : Go d 78 54 [o0, o1, o2, some (.int x), o4, o5] (st) h Q = Go d 78 55 [o0, o1, o2, some (.int x), o4, o5] (.int x :: st) h Q := go_lo (E := (.iload_n 3, 0, 0, 0)) rfl rfl rfl
theorem s_78_55 : Go d 78 55 L (st) h Q = Go d 78 56 L (.int (nI 1) :: st) h Q := go_ic rfl ci_i1
theorem s_78_56 : Go d 78 56 L (.int y :: .int x :: st) h Q = Go d 78 57 L (.int (x - y) :: st) h Q := go_op (E := (.isub, 0, 0, 0)) rfl rfl
theorem s_78_57 : Go d 78 57 [o0, o1, o2, o3, o4, o5] (.int x :: st) h Q = Go d 78 59 [o0, o1, o2, o3, some (.int x), o5] (st) h Q := go_lo (E := (.istore 4, 0, 0, 0)) rfl rfl rfl
theorem s_78_59 : Go d 78 59 [o0, o1, o2, o3, some (.int x), o5] (st) h Q = Go d 78 61 [o0, o1, o2, o3, some (.int x), o5] (.int x :: st) h Q := go_lo (E := (.iload 4, 0, 0, 0)) rfl rfl rfl
theorem s_78_61 : Go d 78 61 L (.int x :: st) h Q = (if x < 0 then Go d 78 93 L st h Q else Go d 78 64 L st h Q) := go_iflt rfl
theorem s_78_64 : Go d 78 64 [some (.ref r), o1, o2, o3, o4, o5] (st) h Q = Go d 78 65 [some (.ref r), o1, o2, o3, o4, o5] (.ref r :: st) h Q := go_lo (E := (.aload_n 0, 0, 0, 0)) rfl rfl rfl
theorem s_78_65 : Go d 78 65 L (.ref 28 :: st) (HP lx xs M) Q = Go d 78 68 L (.ref 34 :: st) (HP lx xs M) Q := go_gf rfl rfl (by decide) rfl
theorem s_78_68 : Go d 78 68 [some (.ref r), o1, o2, o3, o4, o5] (st) h Q = Go d 78 69 [some (.ref r), o1, o2, o3, o4, o5] (.ref r :: st) h Q := go_lo (E := (.aload_n 0, 0, 0, 0)) rfl rfl rfl
theorem s_78_69 : Go d 78 69 L (.ref r :: st) h Q = Go d 78 70 L (.ref r :: .ref r :: st) h Q := go_op (E := (.dup, 0, 0, 0)) rfl rfl
theorem s_78_70 : Go d 78 70 L (.ref 28 :: st) (HP lx xs M) Q = Go d 78 73 L (.int (M 28 4) :: st) (HP lx xs M) Q := go_gf rfl rfl (by decide) rfl
theorem s_78_73 : Go d 78 73 L (.int x :: .ref r2 :: st) h Q = Go d 78 74 L (.int x :: .ref r2 :: .int x :: st) h Q := go_op (E := (.dup_x1, 0, 0, 0)) rfl rfl
theorem s_78_74 : Go d 78 74 L (st) h Q = Go d 78 75 L (.int (nI 1) :: st) h Q := go_ic rfl ci_i1
theorem s_78_75 : Go d 78 75 L (.int y :: .int x :: st) h Q = Go d 78 76 L (.int (x + y) :: st) h Q := go_op (E := (.iadd, 0, 0, 0)) rfl rfl
theorem s_78_76 : Go d 78 76 L (.int x :: .ref 28 :: st) (HP lx xs M) Q = Go d 78 79 L (st) (HP lx xs (up M 28 4 x)) Q := go_pf rfl rfl (by decide) (Nat.le_of_ble_eq_true rfl) rfl hf_28_4
theorem s_78_79 : Go d 78 79 [o0, some (.long u), o2, o3, o4, o5] (st) h Q = Go d 78 80 [o0, some (.long u), o2, o3, o4, o5] (.long u :: st) h Q := go_lo (E := (.lload_n 1, 0, 0, 0)) rfl rfl rfl
theorem s_78_80 : Go d 78 80 [o0, o1, o2, o3, some (.int x), o5] (st) h Q = Go d 78 82 [o0, o1, o2, o3, some (.int x), o5] (.int x :: st) h Q := go_lo (E := (.iload 4, 0, 0, 0)) rfl rfl rfl
theorem s_78_82 {a1 : Int32} {al0 : Int64} {z1 : Int32} {zr0 : Nat} : Go (d + 1) 78 82 L [.int a1, .long al0, .int z1, .ref zr0] h Q = Go d 79 0 [some (.long al0), none, some (.int a1)] [] h (fun v h2 => Go (d + 1) 78 85 L (ap v [.int z1, .ref zr0]) h2 Q) := go_cx (E := (.invokestatic 29, 79, 0, 0)) (k' := 79) (as := [.long al0, .int a1]) rfl rfl rfl rfl rfl rfl rfl rfl
theorem s_78_85 : Go d 78 85 L (.int x :: st) h Q = Go d 78 86 L (.int (x.toInt8.toInt32) :: st) h Q := go_op (E := (.i2b, 0, 0, 0)) rfl rfl
theorem s_78_86 : Go d 78 86 L (.int y :: .int x :: .ref 34 :: st) (HP lx xs M) Q = (ex_in x 160 = true ∧ Go d 78 87 L (st) (HP lx xs (up M 34 x.toNatClampNeg (vp_nar .byte y))) Q) := go_bs1 rfl rfl (by decide) hs_34
theorem s_78_87 : Go d 78 87 [o0, o1, o2, o3, some (.int x), o5] (st) h Q = Go d 78 90 [o0, o1, o2, o3, some (.int (x + -1)), o5] (st) h Q := (ci_im1 ▸ go_lo (E := (.iinc 4 (-1), 0, 0, 0)) rfl rfl rfl : _ = Go d 78 90 [o0, o1, o2, o3, some (.int (x + -1)), o5] (st) h Q)
theorem s_78_90 : Go d 78 90 L (st) h Q = Go d 78 59 L (st) h Q := go_goto rfl
theorem s_78_93 : Go d 78 93 [some (.ref r), o1, o2, o3, o4, o5] (st) h Q = Go d 78 94 [some (.ref r), o1, o2, o3, o4, o5] (.ref r :: st) h Q := go_lo (E := (.aload_n 0, 0, 0, 0)) rfl rfl rfl
theorem s_78_94 : Go d 78 94 L (.ref 28 :: st) (HP lx xs M) Q = Go d 78 97 L (.int (M 28 4) :: st) (HP lx xs M) Q := go_gf rfl rfl (by decide) rfl
theorem s_78_97 : Go d 78 97 L [.int x] h Q = Q (some (.int x)) h := go_ri rfl rfl
theorem s_79_0 : Go d 79 0 [some (.long u), o1, o2] (st) h Q = Go d 79 1 [some (.long u), o1, o2] (.long u :: st) h Q := go_lo (E := (.lload_n 0, 0, 0, 0)) rfl rfl rfl
theorem s_79_1 : Go d 79 1 L (st) h Q = Go d 79 3 L (.int (nI 8) :: st) h Q := go_bi rfl ci_b8
theorem s_79_3 : Go d 79 3 [o0, o1, some (.int x)] (st) h Q = Go d 79 4 [o0, o1, some (.int x)] (.int x :: st) h Q := go_lo (E := (.iload_n 2, 0, 0, 0)) rfl rfl rfl
theorem s_79_4 : Go d 79 4 L (.int y :: .int x :: st) h Q = Go d 79 5 L (.int (x * y) :: st) h Q := go_op (E := (.imul, 0, 0, 0)) rfl rfl
theorem s_79_5 : Go d 79 5 L (.int y :: .long u :: st) h Q = Go d 79 6 L (.long (u >>> (y.toInt64 &&& 63)) :: st) h Q := go_op (E := (.lshr, 0, 0, 0)) rfl rfl
theorem s_79_6 : Go d 79 6 L (st) h Q = Go d 79 9 L (.long (lN 255) :: st) h Q := go_ld2 rfl ci_l255
theorem s_79_9 : Go d 79 9 L (.long w :: .long u :: st) h Q = Go d 79 10 L (.long (u &&& w) :: st) h Q := go_op (E := (.land, 0, 0, 0)) rfl rfl
theorem s_79_10 : Go d 79 10 L (.long u :: st) h Q = Go d 79 11 L (.int (u.toInt32) :: st) h Q := go_op (E := (.l2i, 0, 0, 0)) rfl rfl
theorem s_79_11 : Go d 79 11 L [.int x] h Q = Q (some (.int x)) h := go_ri rfl rfl
theorem s_80_0 : Go d 80 0 [some (.ref r)] (st) h Q = Go d 80 1 [some (.ref r)] (.ref r :: st) h Q := go_lo (E := (.aload_n 0, 0, 0, 0)) rfl rfl rfl
theorem s_80_1 : Go d 80 1 L (st) h Q = Go d 80 2 L (.int (nI 0) :: st) h Q := go_ic rfl ci_i0
theorem s_80_2 : Go d 80 2 L (.int x :: .ref 28 :: st) (HP lx xs M) Q = Go d 80 5 L (st) (HP lx xs (up M 28 4 x)) Q := go_pf rfl rfl (by decide) (Nat.le_of_ble_eq_true rfl) rfl hf_28_4
theorem s_80_5 : Go d 80 5 L [] h Q = Q none h := go_rv rfl rfl
theorem s_81_0 : Go d 81 0 [some (.ref r)] (st) h Q = Go d 81 1 [some (.ref r)] (.ref r :: st) h Q := go_lo (E := (.aload_n 0, 0, 0, 0)) rfl rfl rfl
theorem s_81_1 : Go d 81 1 L (st) h Q = Go d 81 2 L (.int (nI 0) :: st) h Q := go_ic rfl ci_i0
theorem s_81_2 : Go d 81 2 L (.int x :: .ref 28 :: st) (HP lx xs M) Q = Go d 81 5 L (st) (HP lx xs (up M 28 5 x)) Q := go_pf rfl rfl (by decide) (Nat.le_of_ble_eq_true rfl) rfl hf_28_5
theorem s_81_5 : Go d 81 5 [some (.ref r)] (st) h Q = Go d 81 6 [some (.ref r)] (.ref r :: st) h Q := go_lo (E := (.aload_n 0, 0, 0, 0)) rfl rfl rfl
theorem s_81_6  : Go (d + 1) 81 6 L [.ref 28] (HP lx xs M) Q = Go d 83 0 [some (.ref 28)] [] (HP lx xs M) (fun v h2 => Go (d + 1) 81 9 L (ap v []) h2 Q) := go_cx (E := (.invokevirtual 42, 83, 0, 1)) (k' := 83) (as := [.ref 28]) rfl rfl rfl rfl rfl rfl rfl rfl
theorem s_81_9 : Go d 81 9 L [] h Q = Q none h := go_rv rfl rfl
theorem s_82_0 : Go d 82 0 [some (.ref r)] (st) h Q = Go d 82 1 [some (.ref r)] (.ref r :: st) h Q := go_lo (E := (.aload_n 0, 0, 0, 0)) rfl rfl rfl
theorem s_82_1 : Go d 82 1 L (.ref r :: st) h Q = Go d 82 2 L (.ref r :: .ref r :: st) h Q := go_op (E := (.dup, 0, 0, 0)) rfl rfl
theorem s_82_2 : Go d 82 2 L (.ref 28 :: st) (HP lx xs M) Q = Go d 82 5 L (.int (M 28 5) :: st) (HP lx xs M) Q := go_gf rfl rfl (by decide) rfl
theorem s_82_5 : Go d 82 5 L (st) h Q = Go d 82 6 L (.int (nI 1) :: st) h Q := go_ic rfl ci_i1
theorem s_82_6 : Go d 82 6 L (.int y :: .int x :: st) h Q = Go d 82 7 L (.int (x + y) :: st) h Q := go_op (E := (.iadd, 0, 0, 0)) rfl rfl
theorem s_82_7 : Go d 82 7 L (.int x :: .ref 28 :: st) (HP lx xs M) Q = Go d 82 10 L (st) (HP lx xs (up M 28 5 x)) Q := go_pf rfl rfl (by decide) (Nat.le_of_ble_eq_true rfl) rfl hf_28_5
theorem s_82_10 : Go d 82 10 [some (.ref r)] (st) h Q = Go d 82 11 [some (.ref r)] (.ref r :: st) h Q := go_lo (E := (.aload_n 0, 0, 0, 0)) rfl rfl rfl
theorem s_82_11  : Go (d + 1) 82 11 L [.ref 28] (HP lx xs M) Q = Go d 83 0 [some (.ref 28)] [] (HP lx xs M) (fun v h2 => Go (d + 1) 82 14 L (ap v []) h2 Q) := go_cx (E := (.invokevirtual 42, 83, 0, 1)) (k' := 83) (as := [.ref 28]) rfl rfl rfl rfl rfl rfl rfl rfl
theorem s_82_14 : Go d 82 14 L [] h Q = Q none h := go_rv rfl rfl
theorem s_83_0 : Go d 83 0 [some (.ref r)] (st) h Q = Go d 83 1 [some (.ref r)] (.ref r :: st) h Q := go_lo (E := (.aload_n 0, 0, 0, 0)) rfl rfl rfl
theorem s_83_1 : Go d 83 1 L (.ref 28 :: st) (HP lx xs M) Q = Go d 83 4 L (.int (M 28 5) :: st) (HP lx xs M) Q := go_gf rfl rfl (by decide) rfl
theorem s_83_4 : Go d 83 4 [some (.ref r)] (st) h Q = Go d 83 5 [some (.ref r)] (.ref r :: st) h Q := go_lo (E := (.aload_n 0, 0, 0, 0)) rfl rfl rfl
theorem s_83_5 : Go d 83 5 L (.ref 28 :: st) (HP lx xs M) Q = Go d 83 8 L (.int (M 28 4) :: st) (HP lx xs M) Q := go_gf rfl rfl (by decide) rfl
theorem s_83_8 : Go d 83 8 L (.int y :: .int x :: st) h Q = (if x < y then Go d 83 11 L st h Q else Go d 83 38 L st h Q) := go_icge rfl
theorem s_83_11 : Go d 83 11 [some (.ref r)] (st) h Q = Go d 83 12 [some (.ref r)] (.ref r :: st) h Q := go_lo (E := (.aload_n 0, 0, 0, 0)) rfl rfl rfl
theorem s_83_12 : Go d 83 12 L (.ref 28 :: st) (HP lx xs M) Q = Go d 83 15 L (.ref 34 :: st) (HP lx xs M) Q := go_gf rfl rfl (by decide) rfl
theorem s_83_15 : Go d 83 15 [some (.ref r)] (st) h Q = Go d 83 16 [some (.ref r)] (.ref r :: st) h Q := go_lo (E := (.aload_n 0, 0, 0, 0)) rfl rfl rfl
theorem s_83_16 : Go d 83 16 L (.ref 28 :: st) (HP lx xs M) Q = Go d 83 19 L (.int (M 28 5) :: st) (HP lx xs M) Q := go_gf rfl rfl (by decide) rfl
theorem s_83_19 : Go d 83 19 L (.int x :: .ref 34 :: st) (HP lx xs M) Q = (ex_in x 160 = true ∧ Go d 83 20 L (.int (M 34 x.toNatClampNeg) :: st) (HP lx xs M) Q) := go_bl rfl rfl (by decide) (by decide)
theorem s_83_20 : Go d 83 20 L (st) h Q = Go d 83 22 L (.int (nI 32) :: st) h Q := go_bi rfl ci_b32
theorem s_83_22 : Go d 83 22 L (.int y :: .int x :: st) h Q = (if x = y then Go d 83 25 L st h Q else Go d 83 38 L st h Q) := go_icne rfl
theorem s_83_25 : Go d 83 25 [some (.ref r)] (st) h Q = Go d 83 26 [some (.ref r)] (.ref r :: st) h Q := go_lo (E := (.aload_n 0, 0, 0, 0)) rfl rfl rfl
theorem s_83_26 : Go d 83 26 L (.ref r :: st) h Q = Go d 83 27 L (.ref r :: .ref r :: st) h Q := go_op (E := (.dup, 0, 0, 0)) rfl rfl
theorem s_83_27 : Go d 83 27 L (.ref 28 :: st) (HP lx xs M) Q = Go d 83 30 L (.int (M 28 5) :: st) (HP lx xs M) Q := go_gf rfl rfl (by decide) rfl
theorem s_83_30 : Go d 83 30 L (st) h Q = Go d 83 31 L (.int (nI 1) :: st) h Q := go_ic rfl ci_i1
theorem s_83_31 : Go d 83 31 L (.int y :: .int x :: st) h Q = Go d 83 32 L (.int (x + y) :: st) h Q := go_op (E := (.iadd, 0, 0, 0)) rfl rfl
theorem s_83_32 : Go d 83 32 L (.int x :: .ref 28 :: st) (HP lx xs M) Q = Go d 83 35 L (st) (HP lx xs (up M 28 5 x)) Q := go_pf rfl rfl (by decide) (Nat.le_of_ble_eq_true rfl) rfl hf_28_5
theorem s_83_35 : Go d 83 35 L (st) h Q = Go d 83 0 L (st) h Q := go_goto rfl
theorem s_83_38 : Go d 83 38 L [] h Q = Q none h := go_rv rfl rfl
theorem s_84_0 : Go d 84 0 [some (.ref r)] (st) h Q = Go d 84 1 [some (.ref r)] (.ref r :: st) h Q := go_lo (E := (.aload_n 0, 0, 0, 0)) rfl rfl rfl
theorem s_84_1 : Go d 84 1 L (.ref 28 :: st) (HP lx xs M) Q = Go d 84 4 L (.int (M 28 5) :: st) (HP lx xs M) Q := go_gf rfl rfl (by decide) rfl
theorem s_84_4 : Go d 84 4 [some (.ref r)] (st) h Q = Go d 84 5 [some (.ref r)] (.ref r :: st) h Q := go_lo (E := (.aload_n 0, 0, 0, 0)) rfl rfl rfl
theorem s_84_5 : Go d 84 5 L (.ref 28 :: st) (HP lx xs M) Q = Go d 84 8 L (.int (M 28 4) :: st) (HP lx xs M) Q := go_gf rfl rfl (by decide) rfl
theorem s_84_8 : Go d 84 8 L (.int y :: .int x :: st) h Q = (if x < y then Go d 84 11 L st h Q else Go d 84 23 L st h Q) := go_icge rfl
theorem s_84_11 : Go d 84 11 [some (.ref r)] (st) h Q = Go d 84 12 [some (.ref r)] (.ref r :: st) h Q := go_lo (E := (.aload_n 0, 0, 0, 0)) rfl rfl rfl
theorem s_84_12 : Go d 84 12 L (.ref 28 :: st) (HP lx xs M) Q = Go d 84 15 L (.ref 34 :: st) (HP lx xs M) Q := go_gf rfl rfl (by decide) rfl
theorem s_84_15 : Go d 84 15 [some (.ref r)] (st) h Q = Go d 84 16 [some (.ref r)] (.ref r :: st) h Q := go_lo (E := (.aload_n 0, 0, 0, 0)) rfl rfl rfl
theorem s_84_16 : Go d 84 16 L (.ref 28 :: st) (HP lx xs M) Q = Go d 84 19 L (.int (M 28 5) :: st) (HP lx xs M) Q := go_gf rfl rfl (by decide) rfl
theorem s_84_19 : Go d 84 19 L (.int x :: .ref 34 :: st) (HP lx xs M) Q = (ex_in x 160 = true ∧ Go d 84 20 L (.int (M 34 x.toNatClampNeg) :: st) (HP lx xs M) Q) := go_bl rfl rfl (by decide) (by decide)
theorem s_84_20 : Go d 84 20 L (st) h Q = Go d 84 24 L (st) h Q := go_goto rfl
theorem s_84_23 : Go d 84 23 L (st) h Q = Go d 84 24 L (.int (-1) :: st) h Q := go_ic rfl ci_im1
theorem s_84_24 : Go d 84 24 L [.int x] h Q = Q (some (.int x)) h := go_ri rfl rfl
theorem s_85_0 : Go d 85 0 [some (.ref r), o1] (st) h Q = Go d 85 1 [some (.ref r), o1] (.ref r :: st) h Q := go_lo (E := (.aload_n 0, 0, 0, 0)) rfl rfl rfl
theorem s_85_1  : Go (d + 1) 85 1 L [.ref 28] (HP lx xs M) Q = Go d 84 0 [some (.ref 28)] [] (HP lx xs M) (fun v h2 => Go (d + 1) 85 4 L (ap v []) h2 Q) := go_cx (E := (.invokevirtual 45, 84, 0, 1)) (k' := 84) (as := [.ref 28]) rfl rfl rfl rfl rfl rfl rfl rfl
theorem s_85_4 : Go d 85 4 [o0, some (.int x)] (st) h Q = Go d 85 5 [o0, some (.int x)] (.int x :: st) h Q := go_lo (E := (.iload_n 1, 0, 0, 0)) rfl rfl rfl
theorem s_85_5 : Go d 85 5 L (.int y :: .int x :: st) h Q = (if x = y then Go d 85 10 L st h Q else Go d 85 8 L st h Q) := go_iceq rfl
theorem s_85_8 : Go d 85 8 L (st) h Q = Go d 85 9 L (.int (nI 0) :: st) h Q := go_ic rfl ci_i0
theorem s_85_9_0 : Go d 85 9 L [.int (nI 0)] h Q = Q (some (.int (nI 0))) h := go_rz rfl rfl (by decide)
theorem s_85_9_1 : Go d 85 9 L [.int (nI 1)] h Q = Q (some (.int (nI 1))) h := go_rz rfl rfl (by decide)
theorem s_85_10 : Go d 85 10 [some (.ref r), o1] (st) h Q = Go d 85 11 [some (.ref r), o1] (.ref r :: st) h Q := go_lo (E := (.aload_n 0, 0, 0, 0)) rfl rfl rfl
theorem s_85_11  : Go (d + 1) 85 11 L [.ref 28] (HP lx xs M) Q = Go d 82 0 [some (.ref 28)] [] (HP lx xs M) (fun v h2 => Go (d + 1) 85 14 L (ap v []) h2 Q) := go_cx (E := (.invokevirtual 49, 82, 0, 1)) (k' := 82) (as := [.ref 28]) rfl rfl rfl rfl rfl rfl rfl rfl
theorem s_85_14 : Go d 85 14 L (st) h Q = Go d 85 15 L (.int (nI 1) :: st) h Q := go_ic rfl ci_i1
theorem s_85_15_0 : Go d 85 15 L [.int (nI 0)] h Q = Q (some (.int (nI 0))) h := go_rz rfl rfl (by decide)
theorem s_85_15_1 : Go d 85 15 L [.int (nI 1)] h Q = Q (some (.int (nI 1))) h := go_rz rfl rfl (by decide)
theorem s_86_0 : Go d 86 0 L (st) h Q = Go d 86 2 L (.int (-20) :: st) h Q := go_bi rfl ci_bm20
theorem s_86_2 : Go d 86 2 [some (.ref r)] (st) h Q = Go d 86 3 [some (.ref r)] (.ref r :: st) h Q := go_lo (E := (.aload_n 0, 0, 0, 0)) rfl rfl rfl
theorem s_86_3 : Go d 86 3 L (.ref 28 :: st) (HP lx xs M) Q = Go d 86 6 L (.int (M 28 5) :: st) (HP lx xs M) Q := go_gf rfl rfl (by decide) rfl
theorem s_86_6 : Go d 86 6 L (.int y :: .int x :: st) h Q = Go d 86 7 L (.int (x - y) :: st) h Q := go_op (E := (.isub, 0, 0, 0)) rfl rfl
theorem s_86_7 : Go d 86 7 L [.int x] h Q = Q (some (.int x)) h := go_ri rfl rfl
theorem s_87_0 : Go d 87 0 [some (.ref r), o1] (st) h Q = Go d 87 1 [some (.ref r), o1] (.ref r :: st) h Q := go_lo (E := (.aload_n 0, 0, 0, 0)) rfl rfl rfl
theorem s_87_1  : Go (d + 1) 87 1 L [.ref 28] (HP lx xs M) Q = Go d 81 0 [some (.ref 28)] [] (HP lx xs M) (fun v h2 => Go (d + 1) 87 4 L (ap v []) h2 Q) := go_cx (E := (.invokevirtual 52, 81, 0, 1)) (k' := 81) (as := [.ref 28]) rfl rfl rfl rfl rfl rfl rfl rfl
theorem s_87_4 : Go d 87 4 L (st) h Q = Go d 87 5 L (.int (nI 0) :: st) h Q := go_ic rfl ci_i0
theorem s_87_5 : Go d 87 5 [o0, o1] (.int x :: st) h Q = Go d 87 6 [o0, some (.int x)] (st) h Q := go_lo (E := (.istore_n 1, 0, 0, 0)) rfl rfl rfl
theorem s_87_6 : Go d 87 6 [o0, some (.int x)] (st) h Q = Go d 87 7 [o0, some (.int x)] (.int x :: st) h Q := go_lo (E := (.iload_n 1, 0, 0, 0)) rfl rfl rfl
theorem s_87_7 : Go d 87 7 L (st) h Q = Go d 87 9 L (.int (nI 6) :: st) h Q := go_bi rfl ci_b6
theorem s_87_9 : Go d 87 9 L (.int y :: .int x :: st) h Q = (if x < y then Go d 87 12 L st h Q else Go d 87 89 L st h Q) := go_icge rfl
theorem s_87_12 : Go d 87 12 [o0, some (.int x)] (st) h Q = Go d 87 13 [o0, some (.int x)] (.int x :: st) h Q := go_lo (E := (.iload_n 1, 0, 0, 0)) rfl rfl rfl
theorem s_87_13 : Go d 87 13 L (.int x :: st) h Q = (if 0 < x then Go d 87 16 L st h Q else Go d 87 30 L st h Q) := go_ifle rfl
theorem s_87_16 : Go d 87 16 [some (.ref r), o1] (st) h Q = Go d 87 17 [some (.ref r), o1] (.ref r :: st) h Q := go_lo (E := (.aload_n 0, 0, 0, 0)) rfl rfl rfl
theorem s_87_17 : Go d 87 17 L (st) h Q = Go d 87 19 L (.int (nI 44) :: st) h Q := go_bi rfl ci_b44
theorem s_87_19 {a1 : Int32} : Go (d + 1) 87 19 L [.int a1, .ref 28] (HP lx xs M) Q = Go d 85 0 [some (.ref 28), some (.int a1)] [] (HP lx xs M) (fun v h2 => Go (d + 1) 87 22 L (ap v []) h2 Q) := go_cx (E := (.invokevirtual 55, 85, 0, 1)) (k' := 85) (as := [.ref 28, .int a1]) rfl rfl rfl rfl rfl rfl rfl rfl
theorem s_87_22 : Go d 87 22 L (.int x :: st) h Q = (if x = 0 then Go d 87 25 L st h Q else Go d 87 30 L st h Q) := go_ifne rfl
theorem s_87_25 : Go d 87 25 [some (.ref r), o1] (st) h Q = Go d 87 26 [some (.ref r), o1] (.ref r :: st) h Q := go_lo (E := (.aload_n 0, 0, 0, 0)) rfl rfl rfl
theorem s_87_26  : Go (d + 1) 87 26 L [.ref 28] (HP lx xs M) Q = Go d 86 0 [some (.ref 28)] [] (HP lx xs M) (fun v h2 => Go (d + 1) 87 29 L (ap v []) h2 Q) := go_cx (E := (.invokevirtual 59, 86, 0, 1)) (k' := 86) (as := [.ref 28]) rfl rfl rfl rfl rfl rfl rfl rfl
theorem s_87_29 : Go d 87 29 L [.int x] h Q = Q (some (.int x)) h := go_ri rfl rfl
theorem s_87_30 : Go d 87 30 [some (.ref r), o1] (st) h Q = Go d 87 31 [some (.ref r), o1] (.ref r :: st) h Q := go_lo (E := (.aload_n 0, 0, 0, 0)) rfl rfl rfl
theorem s_87_31 : Go d 87 31 L (.ref 28 :: st) (HP lx xs M) Q = Go d 87 34 L (.ref 29 :: st) (HP lx xs M) Q := go_gf rfl rfl (by decide) rfl
theorem s_87_34 : Go d 87 34 [o0, some (.int x)] (st) h Q = Go d 87 35 [o0, some (.int x)] (.int x :: st) h Q := go_lo (E := (.iload_n 1, 0, 0, 0)) rfl rfl rfl
theorem s_87_35 : Go d 87 35 [some (.ref r), o1] (st) h Q = Go d 87 36 [some (.ref r), o1] (.ref r :: st) h Q := go_lo (E := (.aload_n 0, 0, 0, 0)) rfl rfl rfl
theorem s_87_36 {z1 : Int32} {zr0 : Nat} : Go (d + 1) 87 36 L [.ref 28, .int z1, .ref zr0] (HP lx xs M) Q = Go d 84 0 [some (.ref 28)] [] (HP lx xs M) (fun v h2 => Go (d + 1) 87 39 L (ap v [.int z1, .ref zr0]) h2 Q) := go_cx (E := (.invokevirtual 45, 84, 0, 1)) (k' := 84) (as := [.ref 28]) rfl rfl rfl rfl rfl rfl rfl rfl
theorem s_87_39 {a0 : Int32} {z1 : Int32} {zr0 : Nat} : Go (d + 1) 87 39 L [.int a0, .int z1, .ref zr0] h Q = Go d 88 0 [some (.int a0)] [] h (fun v h2 => Go (d + 1) 87 42 L (ap v [.int z1, .ref zr0]) h2 Q) := go_cx (E := (.invokestatic 62, 88, 0, 0)) (k' := 88) (as := [.int a0]) rfl rfl rfl rfl rfl rfl rfl rfl
theorem s_87_42 : Go d 87 42 L (.int y :: .int x :: .ref 29 :: st) (HP lx xs M) Q = (ex_in x 6 = true ∧ Go d 87 43 L (st) (HP lx xs (up M 29 x.toNatClampNeg y)) Q) := go_as rfl rfl (by decide) hs_29
theorem s_87_43 : Go d 87 43 [some (.ref r), o1] (st) h Q = Go d 87 44 [some (.ref r), o1] (.ref r :: st) h Q := go_lo (E := (.aload_n 0, 0, 0, 0)) rfl rfl rfl
theorem s_87_44 : Go d 87 44 L (.ref 28 :: st) (HP lx xs M) Q = Go d 87 47 L (.ref 29 :: st) (HP lx xs M) Q := go_gf rfl rfl (by decide) rfl
theorem s_87_47 : Go d 87 47 [o0, some (.int x)] (st) h Q = Go d 87 48 [o0, some (.int x)] (.int x :: st) h Q := go_lo (E := (.iload_n 1, 0, 0, 0)) rfl rfl rfl
theorem s_87_48 : Go d 87 48 L (.int x :: .ref 29 :: st) (HP lx xs M) Q = (ex_in x 6 = true ∧ Go d 87 49 L (.int (M 29 x.toNatClampNeg) :: st) (HP lx xs M) Q) := go_al rfl rfl
theorem s_87_49 : Go d 87 49 L (.int x :: st) h Q = (if x < 0 then Go d 87 52 L st h Q else Go d 87 57 L st h Q) := go_ifge rfl
theorem s_87_52 : Go d 87 52 [some (.ref r), o1] (st) h Q = Go d 87 53 [some (.ref r), o1] (.ref r :: st) h Q := go_lo (E := (.aload_n 0, 0, 0, 0)) rfl rfl rfl
theorem s_87_53  : Go (d + 1) 87 53 L [.ref 28] (HP lx xs M) Q = Go d 86 0 [some (.ref 28)] [] (HP lx xs M) (fun v h2 => Go (d + 1) 87 56 L (ap v []) h2 Q) := go_cx (E := (.invokevirtual 59, 86, 0, 1)) (k' := 86) (as := [.ref 28]) rfl rfl rfl rfl rfl rfl rfl rfl
theorem s_87_56 : Go d 87 56 L [.int x] h Q = Q (some (.int x)) h := go_ri rfl rfl
theorem s_87_57 : Go d 87 57 [some (.ref r), o1] (st) h Q = Go d 87 58 [some (.ref r), o1] (.ref r :: st) h Q := go_lo (E := (.aload_n 0, 0, 0, 0)) rfl rfl rfl
theorem s_87_58  : Go (d + 1) 87 58 L [.ref 28] (HP lx xs M) Q = Go d 82 0 [some (.ref 28)] [] (HP lx xs M) (fun v h2 => Go (d + 1) 87 61 L (ap v []) h2 Q) := go_cx (E := (.invokevirtual 49, 82, 0, 1)) (k' := 82) (as := [.ref 28]) rfl rfl rfl rfl rfl rfl rfl rfl
theorem s_87_61 : Go d 87 61 [some (.ref r), o1] (st) h Q = Go d 87 62 [some (.ref r), o1] (.ref r :: st) h Q := go_lo (E := (.aload_n 0, 0, 0, 0)) rfl rfl rfl
theorem s_87_62 : Go d 87 62 L (.ref 28 :: st) (HP lx xs M) Q = Go d 87 65 L (.ref 30 :: st) (HP lx xs M) Q := go_gf rfl rfl (by decide) rfl
theorem s_87_65 : Go d 87 65 [o0, some (.int x)] (st) h Q = Go d 87 66 [o0, some (.int x)] (.int x :: st) h Q := go_lo (E := (.iload_n 1, 0, 0, 0)) rfl rfl rfl
theorem s_87_66 : Go d 87 66 [some (.ref r), o1] (st) h Q = Go d 87 67 [some (.ref r), o1] (.ref r :: st) h Q := go_lo (E := (.aload_n 0, 0, 0, 0)) rfl rfl rfl
theorem s_87_67 {z1 : Int32} {zr0 : Nat} : Go (d + 1) 87 67 L [.ref 28, .int z1, .ref zr0] (HP lx xs M) Q = Go d 89 0 [some (.ref 28), none, none, none] [] (HP lx xs M) (fun v h2 => Go (d + 1) 87 70 L (ap v [.int z1, .ref zr0]) h2 Q) := go_cx (E := (.invokevirtual 66, 89, 0, 1)) (k' := 89) (as := [.ref 28]) rfl rfl rfl rfl rfl rfl rfl rfl
theorem s_87_70 : Go d 87 70 L (.int y :: .int x :: .ref 30 :: st) (HP lx xs M) Q = (ex_in x 6 = true ∧ Go d 87 71 L (st) (HP lx xs (up M 30 x.toNatClampNeg y)) Q) := go_as rfl rfl (by decide) hs_30
theorem s_87_71 : Go d 87 71 [some (.ref r), o1] (st) h Q = Go d 87 72 [some (.ref r), o1] (.ref r :: st) h Q := go_lo (E := (.aload_n 0, 0, 0, 0)) rfl rfl rfl
theorem s_87_72  : Go (d + 1) 87 72 L [.ref 28] (HP lx xs M) Q = Go d 84 0 [some (.ref 28)] [] (HP lx xs M) (fun v h2 => Go (d + 1) 87 75 L (ap v []) h2 Q) := go_cx (E := (.invokevirtual 45, 84, 0, 1)) (k' := 84) (as := [.ref 28]) rfl rfl rfl rfl rfl rfl rfl rfl
theorem s_87_75 : Go d 87 75 L (st) h Q = Go d 87 76 L (.int (-1) :: st) h Q := go_ic rfl ci_im1
theorem s_87_76 : Go d 87 76 L (.int y :: .int x :: st) h Q = (if x = y then Go d 87 79 L st h Q else Go d 87 83 L st h Q) := go_icne rfl
theorem s_87_79 : Go d 87 79 [o0, some (.int x)] (st) h Q = Go d 87 80 [o0, some (.int x)] (.int x :: st) h Q := go_lo (E := (.iload_n 1, 0, 0, 0)) rfl rfl rfl
theorem s_87_80 : Go d 87 80 L (st) h Q = Go d 87 81 L (.int (nI 1) :: st) h Q := go_ic rfl ci_i1
theorem s_87_81 : Go d 87 81 L (.int y :: .int x :: st) h Q = Go d 87 82 L (.int (x + y) :: st) h Q := go_op (E := (.iadd, 0, 0, 0)) rfl rfl
theorem s_87_82 : Go d 87 82 L [.int x] h Q = Q (some (.int x)) h := go_ri rfl rfl
theorem s_87_83 : Go d 87 83 [o0, some (.int x)] (st) h Q = Go d 87 86 [o0, some (.int (x + nI 1))] (st) h Q := (ci_i1 ▸ go_lo (E := (.iinc 1 1, 0, 0, 0)) rfl rfl rfl : _ = Go d 87 86 [o0, some (.int (x + nI 1))] (st) h Q)
theorem s_87_86 : Go d 87 86 L (st) h Q = Go d 87 6 L (st) h Q := go_goto rfl
theorem s_87_89 : Go d 87 89 [some (.ref r), o1] (st) h Q = Go d 87 90 [some (.ref r), o1] (.ref r :: st) h Q := go_lo (E := (.aload_n 0, 0, 0, 0)) rfl rfl rfl
theorem s_87_90  : Go (d + 1) 87 90 L [.ref 28] (HP lx xs M) Q = Go d 86 0 [some (.ref 28)] [] (HP lx xs M) (fun v h2 => Go (d + 1) 87 93 L (ap v []) h2 Q) := go_cx (E := (.invokevirtual 59, 86, 0, 1)) (k' := 86) (as := [.ref 28]) rfl rfl rfl rfl rfl rfl rfl rfl
theorem s_87_93 : Go d 87 93 L [.int x] h Q = Q (some (.int x)) h := go_ri rfl rfl
theorem s_88_0 : Go d 88 0 [some (.int x)] (st) h Q = Go d 88 1 [some (.int x)] (.int x :: st) h Q := go_lo (E := (.iload_n 0, 0, 0, 0)) rfl rfl rfl
theorem s_88_1_104 : Go d 88 1 L (.int (nI 104) :: st) h Q = Go d 88 46 L (st) h Q := go_lk (off := 45) rfl (by decide +kernel) (by decide +kernel)
theorem s_88_1_108 : Go d 88 1 L (.int (nI 108) :: st) h Q = Go d 88 48 L (st) h Q := go_lk (off := 47) rfl (by decide +kernel) (by decide +kernel)
theorem s_88_1_112 : Go d 88 1 L (.int (nI 112) :: st) h Q = Go d 88 44 L (st) h Q := go_lk (off := 43) rfl (by decide +kernel) (by decide +kernel)
theorem s_88_1_119 : Go d 88 1 L (.int (nI 119) :: st) h Q = Go d 88 50 L (st) h Q := go_lk (off := 49) rfl (by decide +kernel) (by decide +kernel)
theorem sd_88_1 (hx : Op.lookupswitch.offset [(104, 45), (108, 47), (112, 43), (119, 49)] 51 x.toInt = 51) : Go d 88 1 L (.int x :: st) h Q = Go d 88 52 L st h Q := go_lk rfl hx (by decide +kernel)
theorem s_88_44 : Go d 88 44 L (st) h Q = Go d 88 45 L (.int (nI 0) :: st) h Q := go_ic rfl ci_i0
theorem s_88_45 : Go d 88 45 L [.int x] h Q = Q (some (.int x)) h := go_ri rfl rfl
theorem s_88_46 : Go d 88 46 L (st) h Q = Go d 88 47 L (.int (nI 1) :: st) h Q := go_ic rfl ci_i1
theorem s_88_47 : Go d 88 47 L [.int x] h Q = Q (some (.int x)) h := go_ri rfl rfl
theorem s_88_48 : Go d 88 48 L (st) h Q = Go d 88 49 L (.int (nI 2) :: st) h Q := go_ic rfl ci_i2
theorem s_88_49 : Go d 88 49 L [.int x] h Q = Q (some (.int x)) h := go_ri rfl rfl
theorem s_88_50 : Go d 88 50 L (st) h Q = Go d 88 51 L (.int (nI 3) :: st) h Q := go_ic rfl ci_i3
theorem s_88_51 : Go d 88 51 L [.int x] h Q = Q (some (.int x)) h := go_ri rfl rfl
theorem s_88_52 : Go d 88 52 L (st) h Q = Go d 88 54 L (.int (-4) :: st) h Q := go_bi rfl ci_bm4
theorem s_88_54 : Go d 88 54 L [.int x] h Q = Q (some (.int x)) h := go_ri rfl rfl
theorem s_89_0 : Go d 89 0 L (st) h Q = Go d 89 1 L (.int (nI 0) :: st) h Q := go_ic rfl ci_i0
theorem s_89_1 : Go d 89 1 [o0, o1, o2, o3] (.int x :: st) h Q = Go d 89 2 [o0, some (.int x), o2, o3] (st) h Q := go_lo (E := (.istore_n 1, 0, 0, 0)) rfl rfl rfl
theorem s_89_2 : Go d 89 2 L (st) h Q = Go d 89 3 L (.int (nI 0) :: st) h Q := go_ic rfl ci_i0
theorem s_89_3 : Go d 89 3 [o0, o1, o2, o3] (.int x :: st) h Q = Go d 89 4 [o0, o1, some (.int x), o3] (st) h Q := go_lo (E := (.istore_n 2, 0, 0, 0)) rfl rfl rfl
theorem s_89_4 : Go d 89 4 [o0, o1, some (.int x), o3] (st) h Q = Go d 89 5 [o0, o1, some (.int x), o3] (.int x :: st) h Q := go_lo (E := (.iload_n 2, 0, 0, 0)) rfl rfl rfl
theorem s_89_5 : Go d 89 5 L (st) h Q = Go d 89 6 L (.int (nI 4) :: st) h Q := go_ic rfl ci_i4
theorem s_89_6 : Go d 89 6 L (.int y :: .int x :: st) h Q = (if x < y then Go d 89 9 L st h Q else Go d 89 50 L st h Q) := go_icge rfl
theorem s_89_9 : Go d 89 9 [some (.ref r), o1, o2, o3] (st) h Q = Go d 89 10 [some (.ref r), o1, o2, o3] (.ref r :: st) h Q := go_lo (E := (.aload_n 0, 0, 0, 0)) rfl rfl rfl
theorem s_89_10  : Go (d + 1) 89 10 L [.ref 28] (HP lx xs M) Q = Go d 84 0 [some (.ref 28)] [] (HP lx xs M) (fun v h2 => Go (d + 1) 89 13 L (ap v []) h2 Q) := go_cx (E := (.invokevirtual 45, 84, 0, 1)) (k' := 84) (as := [.ref 28]) rfl rfl rfl rfl rfl rfl rfl rfl
theorem s_89_13 : Go d 89 13 L (st) h Q = Go d 89 15 L (.int (nI 97) :: st) h Q := go_bi rfl ci_b97
theorem s_89_15 : Go d 89 15 L (.int y :: .int x :: st) h Q = Go d 89 16 L (.int (x - y) :: st) h Q := go_op (E := (.isub, 0, 0, 0)) rfl rfl
theorem s_89_16 : Go d 89 16 [o0, o1, o2, o3] (.int x :: st) h Q = Go d 89 17 [o0, o1, o2, some (.int x)] (st) h Q := go_lo (E := (.istore_n 3, 0, 0, 0)) rfl rfl rfl
theorem s_89_17 : Go d 89 17 [o0, o1, o2, some (.int x)] (st) h Q = Go d 89 18 [o0, o1, o2, some (.int x)] (.int x :: st) h Q := go_lo (E := (.iload_n 3, 0, 0, 0)) rfl rfl rfl
theorem s_89_18 {a0 : Int32} : Go (d + 1) 89 18 L [.int a0] h Q = Go d 45 0 [some (.int a0)] [] h (fun v h2 => Go (d + 1) 89 21 L (ap v []) h2 Q) := go_cx (E := (.invokestatic 69, 45, 1, 0)) (k' := 45) (as := [.int a0]) rfl rfl rfl rfl rfl rfl rfl rfl
theorem s_89_21 : Go d 89 21 L (.int x :: st) h Q = (if x = 0 then Go d 89 32 L st h Q else Go d 89 24 L st h Q) := go_ifeq rfl
theorem s_89_24 : Go d 89 24 [o0, some (.int x), o2, o3] (st) h Q = Go d 89 25 [o0, some (.int x), o2, o3] (.int x :: st) h Q := go_lo (E := (.iload_n 1, 0, 0, 0)) rfl rfl rfl
theorem s_89_25 : Go d 89 25 [o0, o1, o2, some (.int x)] (st) h Q = Go d 89 26 [o0, o1, o2, some (.int x)] (.int x :: st) h Q := go_lo (E := (.iload_n 3, 0, 0, 0)) rfl rfl rfl
theorem s_89_26 {a0 : Int32} {a1 : Int32} : Go (d + 1) 89 26 L [.int a1, .int a0] h Q = Go d 49 0 [some (.int a0), some (.int a1)] [] h (fun v h2 => Go (d + 1) 89 29 L (ap v []) h2 Q) := go_cx (E := (.invokestatic 72, 49, 1, 0)) (k' := 49) (as := [.int a0, .int a1]) rfl rfl rfl rfl rfl rfl rfl rfl
theorem s_89_29 : Go d 89 29 L (.int x :: st) h Q = (if x = 0 then Go d 89 34 L st h Q else Go d 89 32 L st h Q) := go_ifeq rfl
theorem s_89_32 : Go d 89 32 [o0, some (.int x), o2, o3] (st) h Q = Go d 89 33 [o0, some (.int x), o2, o3] (.int x :: st) h Q := go_lo (E := (.iload_n 1, 0, 0, 0)) rfl rfl rfl
theorem s_89_33 : Go d 89 33 L [.int x] h Q = Q (some (.int x)) h := go_ri rfl rfl
theorem s_89_34 : Go d 89 34 [o0, some (.int x), o2, o3] (st) h Q = Go d 89 35 [o0, some (.int x), o2, o3] (.int x :: st) h Q := go_lo (E := (.iload_n 1, 0, 0, 0)) rfl rfl rfl
theorem s_89_35 : Go d 89 35 L (st) h Q = Go d 89 36 L (.int (nI 1) :: st) h Q := go_ic rfl ci_i1
theorem s_89_36 : Go d 89 36 [o0, o1, o2, some (.int x)] (st) h Q = Go d 89 37 [o0, o1, o2, some (.int x)] (.int x :: st) h Q := go_lo (E := (.iload_n 3, 0, 0, 0)) rfl rfl rfl
theorem s_89_37 : Go d 89 37 L (.int y :: .int x :: st) h Q = Go d 89 38 L (.int (x <<< (y &&& 31)) :: st) h Q := go_op (E := (.ishl, 0, 0, 0)) rfl rfl
theorem s_89_38 : Go d 89 38 L (.int y :: .int x :: st) h Q = Go d 89 39 L (.int (x ||| y) :: st) h Q := go_op (E := (.ior, 0, 0, 0)) rfl rfl
theorem s_89_39 : Go d 89 39 [o0, o1, o2, o3] (.int x :: st) h Q = Go d 89 40 [o0, some (.int x), o2, o3] (st) h Q := go_lo (E := (.istore_n 1, 0, 0, 0)) rfl rfl rfl
theorem s_89_40 : Go d 89 40 [some (.ref r), o1, o2, o3] (st) h Q = Go d 89 41 [some (.ref r), o1, o2, o3] (.ref r :: st) h Q := go_lo (E := (.aload_n 0, 0, 0, 0)) rfl rfl rfl
theorem s_89_41  : Go (d + 1) 89 41 L [.ref 28] (HP lx xs M) Q = Go d 82 0 [some (.ref 28)] [] (HP lx xs M) (fun v h2 => Go (d + 1) 89 44 L (ap v []) h2 Q) := go_cx (E := (.invokevirtual 49, 82, 0, 1)) (k' := 82) (as := [.ref 28]) rfl rfl rfl rfl rfl rfl rfl rfl
theorem s_89_44 : Go d 89 44 [o0, o1, some (.int x), o3] (st) h Q = Go d 89 47 [o0, o1, some (.int (x + nI 1)), o3] (st) h Q := (ci_i1 ▸ go_lo (E := (.iinc 2 1, 0, 0, 0)) rfl rfl rfl : _ = Go d 89 47 [o0, o1, some (.int (x + nI 1)), o3] (st) h Q)
theorem s_89_47 : Go d 89 47 L (st) h Q = Go d 89 4 L (st) h Q := go_goto rfl
theorem s_89_50 : Go d 89 50 [o0, some (.int x), o2, o3] (st) h Q = Go d 89 51 [o0, some (.int x), o2, o3] (.int x :: st) h Q := go_lo (E := (.iload_n 1, 0, 0, 0)) rfl rfl rfl
theorem s_89_51 : Go d 89 51 L [.int x] h Q = Q (some (.int x)) h := go_ri rfl rfl
theorem s_90_0 : Go d 90 0 [some (.ref r), o1, o2, o3, o4] (st) h Q = Go d 90 1 [some (.ref r), o1, o2, o3, o4] (.ref r :: st) h Q := go_lo (E := (.aload_n 0, 0, 0, 0)) rfl rfl rfl
theorem s_90_1  : Go (d + 1) 90 1 L [.ref 28] (HP lx xs M) Q = Go d 81 0 [some (.ref 28)] [] (HP lx xs M) (fun v h2 => Go (d + 1) 90 4 L (ap v []) h2 Q) := go_cx (E := (.invokevirtual 52, 81, 0, 1)) (k' := 81) (as := [.ref 28]) rfl rfl rfl rfl rfl rfl rfl rfl
theorem s_90_4 : Go d 90 4 [some (.ref r), o1, o2, o3, o4] (st) h Q = Go d 90 5 [some (.ref r), o1, o2, o3, o4] (.ref r :: st) h Q := go_lo (E := (.aload_n 0, 0, 0, 0)) rfl rfl rfl
theorem s_90_5 : Go d 90 5 L (.ref 28 :: st) (HP lx xs M) Q = Go d 90 8 L (.ref 31 :: st) (HP lx xs M) Q := go_gf rfl rfl (by decide) rfl
theorem s_90_8  : Go (d + 1) 90 8 L [.ref 31] (HP lx xs M) Q = Go d 8 0 [some (.ref 31)] [] (HP lx xs M) (fun v h2 => Go (d + 1) 90 11 L (ap v []) h2 Q) := go_cx (E := (.invokevirtual 76, 8, 0, 0)) (k' := 8) (as := [.ref 31]) rfl rfl rfl rfl rfl rfl rfl rfl
theorem s_90_11 : Go d 90 11 L (st) h Q = Go d 90 12 L (.int (nI 0) :: st) h Q := go_ic rfl ci_i0
theorem s_90_12 : Go d 90 12 [o0, o1, o2, o3, o4] (.int x :: st) h Q = Go d 90 13 [o0, o1, some (.int x), o3, o4] (st) h Q := go_lo (E := (.istore_n 2, 0, 0, 0)) rfl rfl rfl
theorem s_90_13 : Go d 90 13 [o0, o1, some (.int x), o3, o4] (st) h Q = Go d 90 14 [o0, o1, some (.int x), o3, o4] (.int x :: st) h Q := go_lo (E := (.iload_n 2, 0, 0, 0)) rfl rfl rfl
theorem s_90_14 : Go d 90 14 L (st) h Q = Go d 90 16 L (.int (nI 24) :: st) h Q := go_bi rfl ci_b24
theorem s_90_16 : Go d 90 16 L (.int y :: .int x :: st) h Q = (if x < y then Go d 90 19 L st h Q else Go d 90 105 L st h Q) := go_icge rfl
theorem s_90_19 : Go d 90 19 [o0, o1, some (.int x), o3, o4] (st) h Q = Go d 90 20 [o0, o1, some (.int x), o3, o4] (.int x :: st) h Q := go_lo (E := (.iload_n 2, 0, 0, 0)) rfl rfl rfl
theorem s_90_20 : Go d 90 20 L (.int x :: st) h Q = (if x = 0 then Go d 90 32 L st h Q else Go d 90 23 L st h Q) := go_ifeq rfl
theorem s_90_23 : Go d 90 23 [some (.ref r), o1, o2, o3, o4] (st) h Q = Go d 90 24 [some (.ref r), o1, o2, o3, o4] (.ref r :: st) h Q := go_lo (E := (.aload_n 0, 0, 0, 0)) rfl rfl rfl
theorem s_90_24 : Go d 90 24 L (st) h Q = Go d 90 26 L (.int (nI 59) :: st) h Q := go_bi rfl ci_b59
theorem s_90_26 {a1 : Int32} : Go (d + 1) 90 26 L [.int a1, .ref 28] (HP lx xs M) Q = Go d 85 0 [some (.ref 28), some (.int a1)] [] (HP lx xs M) (fun v h2 => Go (d + 1) 90 29 L (ap v []) h2 Q) := go_cx (E := (.invokevirtual 55, 85, 0, 1)) (k' := 85) (as := [.ref 28, .int a1]) rfl rfl rfl rfl rfl rfl rfl rfl
theorem s_90_29 : Go d 90 29 L (.int x :: st) h Q = (if x = 0 then Go d 90 36 L st h Q else Go d 90 32 L st h Q) := go_ifeq rfl
theorem s_90_32 : Go d 90 32 L (st) h Q = Go d 90 33 L (.int (nI 1) :: st) h Q := go_ic rfl ci_i1
theorem s_90_33 : Go d 90 33 L (st) h Q = Go d 90 37 L (st) h Q := go_goto rfl
theorem s_90_36 : Go d 90 36 L (st) h Q = Go d 90 37 L (.int (nI 0) :: st) h Q := go_ic rfl ci_i0
theorem s_90_37 : Go d 90 37 [o0, o1, o2, o3, o4] (.int x :: st) h Q = Go d 90 38 [o0, o1, o2, some (.int x), o4] (st) h Q := go_lo (E := (.istore_n 3, 0, 0, 0)) rfl rfl rfl
theorem s_90_38 : Go d 90 38 [o0, o1, o2, some (.int x), o4] (st) h Q = Go d 90 39 [o0, o1, o2, some (.int x), o4] (.int x :: st) h Q := go_lo (E := (.iload_n 3, 0, 0, 0)) rfl rfl rfl
theorem s_90_39 : Go d 90 39 L (.int x :: st) h Q = (if x = 0 then Go d 90 42 L st h Q else Go d 90 56 L st h Q) := go_ifne rfl
theorem s_90_42 : Go d 90 42 [some (.ref r), o1, o2, o3, o4] (st) h Q = Go d 90 43 [some (.ref r), o1, o2, o3, o4] (.ref r :: st) h Q := go_lo (E := (.aload_n 0, 0, 0, 0)) rfl rfl rfl
theorem s_90_43 : Go d 90 43 L (st) h Q = Go d 90 45 L (.int (nI 44) :: st) h Q := go_bi rfl ci_b44
theorem s_90_45 {a1 : Int32} : Go (d + 1) 90 45 L [.int a1, .ref 28] (HP lx xs M) Q = Go d 85 0 [some (.ref 28), some (.int a1)] [] (HP lx xs M) (fun v h2 => Go (d + 1) 90 48 L (ap v []) h2 Q) := go_cx (E := (.invokevirtual 55, 85, 0, 1)) (k' := 85) (as := [.ref 28, .int a1]) rfl rfl rfl rfl rfl rfl rfl rfl
theorem s_90_48 : Go d 90 48 L (.int x :: st) h Q = (if x = 0 then Go d 90 51 L st h Q else Go d 90 56 L st h Q) := go_ifne rfl
theorem s_90_51 : Go d 90 51 [some (.ref r), o1, o2, o3, o4] (st) h Q = Go d 90 52 [some (.ref r), o1, o2, o3, o4] (.ref r :: st) h Q := go_lo (E := (.aload_n 0, 0, 0, 0)) rfl rfl rfl
theorem s_90_52  : Go (d + 1) 90 52 L [.ref 28] (HP lx xs M) Q = Go d 86 0 [some (.ref 28)] [] (HP lx xs M) (fun v h2 => Go (d + 1) 90 55 L (ap v []) h2 Q) := go_cx (E := (.invokevirtual 59, 86, 0, 1)) (k' := 86) (as := [.ref 28]) rfl rfl rfl rfl rfl rfl rfl rfl
theorem s_90_55 : Go d 90 55 L [.int x] h Q = Q (some (.int x)) h := go_ri rfl rfl
theorem s_90_56 : Go d 90 56 [some (.ref r), o1, o2, o3, o4] (st) h Q = Go d 90 57 [some (.ref r), o1, o2, o3, o4] (.ref r :: st) h Q := go_lo (E := (.aload_n 0, 0, 0, 0)) rfl rfl rfl
theorem s_90_57 : Go d 90 57 [o0, some (.int x), o2, o3, o4] (st) h Q = Go d 90 58 [o0, some (.int x), o2, o3, o4] (.int x :: st) h Q := go_lo (E := (.iload_n 1, 0, 0, 0)) rfl rfl rfl
theorem s_90_58 {a1 : Int32} : Go (d + 1) 90 58 L [.int a1, .ref 28] (HP lx xs M) Q = Go d 91 0 [some (.ref 28), some (.int a1), none, none, none] [] (HP lx xs M) (fun v h2 => Go (d + 1) 90 61 L (ap v []) h2 Q) := go_cx (E := (.invokevirtual 79, 91, 0, 1)) (k' := 91) (as := [.ref 28, .int a1]) rfl rfl rfl rfl rfl rfl rfl rfl
theorem s_90_61 : Go d 90 61 [o0, o1, o2, o3, o4] (.int x :: st) h Q = Go d 90 63 [o0, o1, o2, o3, some (.int x)] (st) h Q := go_lo (E := (.istore 4, 0, 0, 0)) rfl rfl rfl
theorem s_90_63 : Go d 90 63 [o0, o1, o2, o3, some (.int x)] (st) h Q = Go d 90 65 [o0, o1, o2, o3, some (.int x)] (.int x :: st) h Q := go_lo (E := (.iload 4, 0, 0, 0)) rfl rfl rfl
theorem s_90_65 : Go d 90 65 L (.int x :: st) h Q = (if x < 0 then Go d 90 68 L st h Q else Go d 90 73 L st h Q) := go_ifge rfl
theorem s_90_68 : Go d 90 68 [some (.ref r), o1, o2, o3, o4] (st) h Q = Go d 90 69 [some (.ref r), o1, o2, o3, o4] (.ref r :: st) h Q := go_lo (E := (.aload_n 0, 0, 0, 0)) rfl rfl rfl
theorem s_90_69  : Go (d + 1) 90 69 L [.ref 28] (HP lx xs M) Q = Go d 86 0 [some (.ref 28)] [] (HP lx xs M) (fun v h2 => Go (d + 1) 90 72 L (ap v []) h2 Q) := go_cx (E := (.invokevirtual 59, 86, 0, 1)) (k' := 86) (as := [.ref 28]) rfl rfl rfl rfl rfl rfl rfl rfl
theorem s_90_72 : Go d 90 72 L [.int x] h Q = Q (some (.int x)) h := go_ri rfl rfl
theorem s_90_73 : Go d 90 73 [some (.ref r), o1, o2, o3, o4] (st) h Q = Go d 90 74 [some (.ref r), o1, o2, o3, o4] (.ref r :: st) h Q := go_lo (E := (.aload_n 0, 0, 0, 0)) rfl rfl rfl
theorem s_90_74 : Go d 90 74 L (.ref 28 :: st) (HP lx xs M) Q = Go d 90 77 L (.ref 31 :: st) (HP lx xs M) Q := go_gf rfl rfl (by decide) rfl
theorem s_90_77 : Go d 90 77 [o0, o1, o2, o3, some (.int x)] (st) h Q = Go d 90 79 [o0, o1, o2, o3, some (.int x)] (.int x :: st) h Q := go_lo (E := (.iload 4, 0, 0, 0)) rfl rfl rfl
theorem s_90_79 : Go d 90 79 [o0, o1, o2, some (.int x), o4] (st) h Q = Go d 90 80 [o0, o1, o2, some (.int x), o4] (.int x :: st) h Q := go_lo (E := (.iload_n 3, 0, 0, 0)) rfl rfl rfl
theorem s_90_80 {a1 : Int32} {a2 : Int32} : Go (d + 1) 90 80 L [.int a2, .int a1, .ref 31] (HP lx xs M) Q = Go d 10 0 [some (.ref 31), some (.int a1), some (.int a2)] [] (HP lx xs M) (fun v h2 => Go (d + 1) 90 83 L (ap v []) h2 Q) := go_cx (E := (.invokevirtual 82, 10, 0, 0)) (k' := 10) (as := [.ref 31, .int a1, .int a2]) rfl rfl rfl rfl rfl rfl rfl rfl
theorem s_90_83 : Go d 90 83 [some (.ref r), o1, o2, o3, o4] (st) h Q = Go d 90 84 [some (.ref r), o1, o2, o3, o4] (.ref r :: st) h Q := go_lo (E := (.aload_n 0, 0, 0, 0)) rfl rfl rfl
theorem s_90_84  : Go (d + 1) 90 84 L [.ref 28] (HP lx xs M) Q = Go d 84 0 [some (.ref 28)] [] (HP lx xs M) (fun v h2 => Go (d + 1) 90 87 L (ap v []) h2 Q) := go_cx (E := (.invokevirtual 45, 84, 0, 1)) (k' := 84) (as := [.ref 28]) rfl rfl rfl rfl rfl rfl rfl rfl
theorem s_90_87 : Go d 90 87 L (st) h Q = Go d 90 88 L (.int (-1) :: st) h Q := go_ic rfl ci_im1
theorem s_90_88 : Go d 90 88 L (.int y :: .int x :: st) h Q = (if x = y then Go d 90 91 L st h Q else Go d 90 99 L st h Q) := go_icne rfl
theorem s_90_91 : Go d 90 91 [some (.ref r), o1, o2, o3, o4] (st) h Q = Go d 90 92 [some (.ref r), o1, o2, o3, o4] (.ref r :: st) h Q := go_lo (E := (.aload_n 0, 0, 0, 0)) rfl rfl rfl
theorem s_90_92 : Go d 90 92 L (.ref 28 :: st) (HP lx xs M) Q = Go d 90 95 L (.ref 31 :: st) (HP lx xs M) Q := go_gf rfl rfl (by decide) rfl
theorem s_90_95 : Go d 90 95 L (.ref 31 :: st) (HP lx xs M) Q = Go d 90 98 L (.int (M 31 0) :: st) (HP lx xs M) Q := go_gf rfl rfl (by decide) rfl
theorem s_90_98 : Go d 90 98 L [.int x] h Q = Q (some (.int x)) h := go_ri rfl rfl
theorem s_90_99 : Go d 90 99 [o0, o1, some (.int x), o3, o4] (st) h Q = Go d 90 102 [o0, o1, some (.int (x + nI 1)), o3, o4] (st) h Q := (ci_i1 ▸ go_lo (E := (.iinc 2 1, 0, 0, 0)) rfl rfl rfl : _ = Go d 90 102 [o0, o1, some (.int (x + nI 1)), o3, o4] (st) h Q)
theorem s_90_102 : Go d 90 102 L (st) h Q = Go d 90 13 L (st) h Q := go_goto rfl
theorem s_90_105 : Go d 90 105 [some (.ref r), o1, o2, o3, o4] (st) h Q = Go d 90 106 [some (.ref r), o1, o2, o3, o4] (.ref r :: st) h Q := go_lo (E := (.aload_n 0, 0, 0, 0)) rfl rfl rfl
theorem s_90_106  : Go (d + 1) 90 106 L [.ref 28] (HP lx xs M) Q = Go d 86 0 [some (.ref 28)] [] (HP lx xs M) (fun v h2 => Go (d + 1) 90 109 L (ap v []) h2 Q) := go_cx (E := (.invokevirtual 59, 86, 0, 1)) (k' := 86) (as := [.ref 28]) rfl rfl rfl rfl rfl rfl rfl rfl
theorem s_90_109 : Go d 90 109 L [.int x] h Q = Q (some (.int x)) h := go_ri rfl rfl
theorem s_91_0 : Go d 91 0 [some (.ref r), o1, o2, o3, o4] (st) h Q = Go d 91 1 [some (.ref r), o1, o2, o3, o4] (.ref r :: st) h Q := go_lo (E := (.aload_n 0, 0, 0, 0)) rfl rfl rfl
theorem s_91_1  : Go (d + 1) 91 1 L [.ref 28] (HP lx xs M) Q = Go d 84 0 [some (.ref 28)] [] (HP lx xs M) (fun v h2 => Go (d + 1) 91 4 L (ap v []) h2 Q) := go_cx (E := (.invokevirtual 45, 84, 0, 1)) (k' := 84) (as := [.ref 28]) rfl rfl rfl rfl rfl rfl rfl rfl
theorem s_91_4 : Go d 91 4 L (st) h Q = Go d 91 6 L (.int (nI 48) :: st) h Q := go_bi rfl ci_b48
theorem s_91_6 : Go d 91 6 L (.int y :: .int x :: st) h Q = Go d 91 7 L (.int (x - y) :: st) h Q := go_op (E := (.isub, 0, 0, 0)) rfl rfl
theorem s_91_7 : Go d 91 7 [o0, o1, o2, o3, o4] (.int x :: st) h Q = Go d 91 8 [o0, o1, some (.int x), o3, o4] (st) h Q := go_lo (E := (.istore_n 2, 0, 0, 0)) rfl rfl rfl
theorem s_91_8 : Go d 91 8 [o0, o1, some (.int x), o3, o4] (st) h Q = Go d 91 9 [o0, o1, some (.int x), o3, o4] (.int x :: st) h Q := go_lo (E := (.iload_n 2, 0, 0, 0)) rfl rfl rfl
theorem s_91_9 : Go d 91 9 L (.int x :: st) h Q = (if x < 0 then Go d 91 17 L st h Q else Go d 91 12 L st h Q) := go_iflt rfl
theorem s_91_12 : Go d 91 12 [o0, o1, some (.int x), o3, o4] (st) h Q = Go d 91 13 [o0, o1, some (.int x), o3, o4] (.int x :: st) h Q := go_lo (E := (.iload_n 2, 0, 0, 0)) rfl rfl rfl
theorem s_91_13 : Go d 91 13 [o0, some (.int x), o2, o3, o4] (st) h Q = Go d 91 14 [o0, some (.int x), o2, o3, o4] (.int x :: st) h Q := go_lo (E := (.iload_n 1, 0, 0, 0)) rfl rfl rfl
theorem s_91_14 : Go d 91 14 L (.int y :: .int x :: st) h Q = (if x < y then Go d 91 20 L st h Q else Go d 91 17 L st h Q) := go_iclt rfl
theorem s_91_17 : Go d 91 17 L (st) h Q = Go d 91 19 L (.int (-4) :: st) h Q := go_bi rfl ci_bm4
theorem s_91_19 : Go d 91 19 L [.int x] h Q = Q (some (.int x)) h := go_ri rfl rfl
theorem s_91_20 : Go d 91 20 [some (.ref r), o1, o2, o3, o4] (st) h Q = Go d 91 21 [some (.ref r), o1, o2, o3, o4] (.ref r :: st) h Q := go_lo (E := (.aload_n 0, 0, 0, 0)) rfl rfl rfl
theorem s_91_21  : Go (d + 1) 91 21 L [.ref 28] (HP lx xs M) Q = Go d 82 0 [some (.ref 28)] [] (HP lx xs M) (fun v h2 => Go (d + 1) 91 24 L (ap v []) h2 Q) := go_cx (E := (.invokevirtual 49, 82, 0, 1)) (k' := 82) (as := [.ref 28]) rfl rfl rfl rfl rfl rfl rfl rfl
theorem s_91_24 : Go d 91 24 [some (.ref r), o1, o2, o3, o4] (st) h Q = Go d 91 25 [some (.ref r), o1, o2, o3, o4] (.ref r :: st) h Q := go_lo (E := (.aload_n 0, 0, 0, 0)) rfl rfl rfl
theorem s_91_25 : Go d 91 25 L (st) h Q = Go d 91 27 L (.int (nI 62) :: st) h Q := go_bi rfl ci_b62
theorem s_91_27 {a1 : Int32} : Go (d + 1) 91 27 L [.int a1, .ref 28] (HP lx xs M) Q = Go d 85 0 [some (.ref 28), some (.int a1)] [] (HP lx xs M) (fun v h2 => Go (d + 1) 91 30 L (ap v []) h2 Q) := go_cx (E := (.invokevirtual 55, 85, 0, 1)) (k' := 85) (as := [.ref 28, .int a1]) rfl rfl rfl rfl rfl rfl rfl rfl
theorem s_91_30 : Go d 91 30 L (.int x :: st) h Q = (if x = 0 then Go d 91 33 L st h Q else Go d 91 36 L st h Q) := go_ifne rfl
theorem s_91_33 : Go d 91 33 L (st) h Q = Go d 91 35 L (.int (-4) :: st) h Q := go_bi rfl ci_bm4
theorem s_91_35 : Go d 91 35 L [.int x] h Q = Q (some (.int x)) h := go_ri rfl rfl
theorem s_91_36 : Go d 91 36 [some (.ref r), o1, o2, o3, o4] (st) h Q = Go d 91 37 [some (.ref r), o1, o2, o3, o4] (.ref r :: st) h Q := go_lo (E := (.aload_n 0, 0, 0, 0)) rfl rfl rfl
theorem s_91_37  : Go (d + 1) 91 37 L [.ref 28] (HP lx xs M) Q = Go d 84 0 [some (.ref 28)] [] (HP lx xs M) (fun v h2 => Go (d + 1) 91 40 L (ap v []) h2 Q) := go_cx (E := (.invokevirtual 45, 84, 0, 1)) (k' := 84) (as := [.ref 28]) rfl rfl rfl rfl rfl rfl rfl rfl
theorem s_91_40 : Go d 91 40 L (st) h Q = Go d 91 42 L (.int (nI 48) :: st) h Q := go_bi rfl ci_b48
theorem s_91_42 : Go d 91 42 L (.int y :: .int x :: st) h Q = Go d 91 43 L (.int (x - y) :: st) h Q := go_op (E := (.isub, 0, 0, 0)) rfl rfl
theorem s_91_43 : Go d 91 43 [o0, o1, o2, o3, o4] (.int x :: st) h Q = Go d 91 44 [o0, o1, o2, some (.int x), o4] (st) h Q := go_lo (E := (.istore_n 3, 0, 0, 0)) rfl rfl rfl
theorem s_91_44 : Go d 91 44 [o0, o1, o2, some (.int x), o4] (st) h Q = Go d 91 45 [o0, o1, o2, some (.int x), o4] (.int x :: st) h Q := go_lo (E := (.iload_n 3, 0, 0, 0)) rfl rfl rfl
theorem s_91_45 : Go d 91 45 L (.int x :: st) h Q = (if x < 0 then Go d 91 58 L st h Q else Go d 91 48 L st h Q) := go_iflt rfl
theorem s_91_48 : Go d 91 48 [o0, o1, o2, some (.int x), o4] (st) h Q = Go d 91 49 [o0, o1, o2, some (.int x), o4] (.int x :: st) h Q := go_lo (E := (.iload_n 3, 0, 0, 0)) rfl rfl rfl
theorem s_91_49 : Go d 91 49 [o0, some (.int x), o2, o3, o4] (st) h Q = Go d 91 50 [o0, some (.int x), o2, o3, o4] (.int x :: st) h Q := go_lo (E := (.iload_n 1, 0, 0, 0)) rfl rfl rfl
theorem s_91_50 : Go d 91 50 L (.int y :: .int x :: st) h Q = (if x < y then Go d 91 53 L st h Q else Go d 91 58 L st h Q) := go_icge rfl
theorem s_91_53 : Go d 91 53 [o0, o1, o2, some (.int x), o4] (st) h Q = Go d 91 54 [o0, o1, o2, some (.int x), o4] (.int x :: st) h Q := go_lo (E := (.iload_n 3, 0, 0, 0)) rfl rfl rfl
theorem s_91_54 : Go d 91 54 [o0, o1, some (.int x), o3, o4] (st) h Q = Go d 91 55 [o0, o1, some (.int x), o3, o4] (.int x :: st) h Q := go_lo (E := (.iload_n 2, 0, 0, 0)) rfl rfl rfl
theorem s_91_55 : Go d 91 55 L (.int y :: .int x :: st) h Q = (if x = y then Go d 91 58 L st h Q else Go d 91 61 L st h Q) := go_icne rfl
theorem s_91_58 : Go d 91 58 L (st) h Q = Go d 91 60 L (.int (-4) :: st) h Q := go_bi rfl ci_bm4
theorem s_91_60 : Go d 91 60 L [.int x] h Q = Q (some (.int x)) h := go_ri rfl rfl
theorem s_91_61 : Go d 91 61 [some (.ref r), o1, o2, o3, o4] (st) h Q = Go d 91 62 [some (.ref r), o1, o2, o3, o4] (.ref r :: st) h Q := go_lo (E := (.aload_n 0, 0, 0, 0)) rfl rfl rfl
theorem s_91_62  : Go (d + 1) 91 62 L [.ref 28] (HP lx xs M) Q = Go d 82 0 [some (.ref 28)] [] (HP lx xs M) (fun v h2 => Go (d + 1) 91 65 L (ap v []) h2 Q) := go_cx (E := (.invokevirtual 49, 82, 0, 1)) (k' := 82) (as := [.ref 28]) rfl rfl rfl rfl rfl rfl rfl rfl
theorem s_91_65 : Go d 91 65 [some (.ref r), o1, o2, o3, o4] (st) h Q = Go d 91 66 [some (.ref r), o1, o2, o3, o4] (.ref r :: st) h Q := go_lo (E := (.aload_n 0, 0, 0, 0)) rfl rfl rfl
theorem s_91_66  : Go (d + 1) 91 66 L [.ref 28] (HP lx xs M) Q = Go d 84 0 [some (.ref 28)] [] (HP lx xs M) (fun v h2 => Go (d + 1) 91 69 L (ap v []) h2 Q) := go_cx (E := (.invokevirtual 45, 84, 0, 1)) (k' := 84) (as := [.ref 28]) rfl rfl rfl rfl rfl rfl rfl rfl
theorem s_91_69 : Go d 91 69 L (st) h Q = Go d 91 71 L (.int (nI 97) :: st) h Q := go_bi rfl ci_b97
theorem s_91_71 : Go d 91 71 L (.int y :: .int x :: st) h Q = Go d 91 72 L (.int (x - y) :: st) h Q := go_op (E := (.isub, 0, 0, 0)) rfl rfl
theorem s_91_72 : Go d 91 72 [o0, o1, o2, o3, o4] (.int x :: st) h Q = Go d 91 74 [o0, o1, o2, o3, some (.int x)] (st) h Q := go_lo (E := (.istore 4, 0, 0, 0)) rfl rfl rfl
theorem s_91_74 : Go d 91 74 [o0, o1, o2, o3, some (.int x)] (st) h Q = Go d 91 76 [o0, o1, o2, o3, some (.int x)] (.int x :: st) h Q := go_lo (E := (.iload 4, 0, 0, 0)) rfl rfl rfl
theorem s_91_76 {a0 : Int32} : Go (d + 1) 91 76 L [.int a0] h Q = Go d 45 0 [some (.int a0)] [] h (fun v h2 => Go (d + 1) 91 79 L (ap v []) h2 Q) := go_cx (E := (.invokestatic 69, 45, 1, 0)) (k' := 45) (as := [.int a0]) rfl rfl rfl rfl rfl rfl rfl rfl
theorem s_91_79 : Go d 91 79 L (.int x :: st) h Q = (if x = 0 then Go d 91 82 L st h Q else Go d 91 85 L st h Q) := go_ifne rfl
theorem s_91_82 : Go d 91 82 L (st) h Q = Go d 91 84 L (.int (-4) :: st) h Q := go_bi rfl ci_bm4
theorem s_91_84 : Go d 91 84 L [.int x] h Q = Q (some (.int x)) h := go_ri rfl rfl
theorem s_91_85 : Go d 91 85 [some (.ref r), o1, o2, o3, o4] (st) h Q = Go d 91 86 [some (.ref r), o1, o2, o3, o4] (.ref r :: st) h Q := go_lo (E := (.aload_n 0, 0, 0, 0)) rfl rfl rfl
theorem s_91_86  : Go (d + 1) 91 86 L [.ref 28] (HP lx xs M) Q = Go d 82 0 [some (.ref 28)] [] (HP lx xs M) (fun v h2 => Go (d + 1) 91 89 L (ap v []) h2 Q) := go_cx (E := (.invokevirtual 49, 82, 0, 1)) (k' := 82) (as := [.ref 28]) rfl rfl rfl rfl rfl rfl rfl rfl
theorem s_91_89 : Go d 91 89 [o0, o1, some (.int x), o3, o4] (st) h Q = Go d 91 90 [o0, o1, some (.int x), o3, o4] (.int x :: st) h Q := go_lo (E := (.iload_n 2, 0, 0, 0)) rfl rfl rfl
theorem s_91_90 : Go d 91 90 [o0, o1, o2, some (.int x), o4] (st) h Q = Go d 91 91 [o0, o1, o2, some (.int x), o4] (.int x :: st) h Q := go_lo (E := (.iload_n 3, 0, 0, 0)) rfl rfl rfl
theorem s_91_91 : Go d 91 91 [o0, o1, o2, o3, some (.int x)] (st) h Q = Go d 91 93 [o0, o1, o2, o3, some (.int x)] (.int x :: st) h Q := go_lo (E := (.iload 4, 0, 0, 0)) rfl rfl rfl
theorem s_91_93 {a0 : Int32} {a1 : Int32} {a2 : Int32} : Go (d + 1) 91 93 L [.int a2, .int a1, .int a0] h Q = Go d 51 0 [some (.int a0), some (.int a1), some (.int a2)] [] h (fun v h2 => Go (d + 1) 91 96 L (ap v []) h2 Q) := go_cx (E := (.invokestatic 87, 51, 1, 0)) (k' := 51) (as := [.int a0, .int a1, .int a2]) rfl rfl rfl rfl rfl rfl rfl rfl
theorem s_91_96 : Go d 91 96 L [.int x] h Q = Q (some (.int x)) h := go_ri rfl rfl
theorem s_106_0 : Go d 106 0 [some (.ref r), o1, o2, o3, o4, o5] (st) h Q = Go d 106 1 [some (.ref r), o1, o2, o3, o4, o5] (.ref r :: st) h Q := go_lo (E := (.aload_n 0, 0, 0, 0)) rfl rfl rfl
theorem s_106_1 : Go d 106 1 L (st) h Q = Go d 106 2 L (.int (nI 0) :: st) h Q := go_ic rfl ci_i0
theorem s_106_2 : Go d 106 2 L (.int x :: .ref 42 :: st) (HP lx xs M) Q = Go d 106 5 L (st) (HP lx xs (up M 42 1 x)) Q := go_pf rfl rfl (by decide) (Nat.le_of_ble_eq_true rfl) rfl hf_42_1
theorem s_106_5 : Go d 106 5 L (st) h Q = Go d 106 6 L (.int (nI 0) :: st) h Q := go_ic rfl ci_i0
theorem s_106_6 : Go d 106 6 [o0, o1, o2, o3, o4, o5] (.int x :: st) h Q = Go d 106 7 [o0, o1, o2, some (.int x), o4, o5] (st) h Q := go_lo (E := (.istore_n 3, 0, 0, 0)) rfl rfl rfl
theorem s_106_7 : Go d 106 7 [o0, o1, o2, some (.int x), o4, o5] (st) h Q = Go d 106 8 [o0, o1, o2, some (.int x), o4, o5] (.int x :: st) h Q := go_lo (E := (.iload_n 3, 0, 0, 0)) rfl rfl rfl
theorem s_106_8 : Go d 106 8 [o0, some (.ref r), o2, o3, o4, o5] (st) h Q = Go d 106 9 [o0, some (.ref r), o2, o3, o4, o5] (.ref r :: st) h Q := go_lo (E := (.aload_n 1, 0, 0, 0)) rfl rfl rfl
theorem s_106_9 : Go d 106 9 L (.ref 2 :: st) (HP lx xs M) Q = Go d 106 12 L (.int (M 2 0) :: st) (HP lx xs M) Q := go_gf rfl rfl (by decide) rfl
theorem s_106_12 : Go d 106 12 L (.int y :: .int x :: st) h Q = (if x < y then Go d 106 15 L st h Q else Go d 106 46 L st h Q) := go_icge rfl
theorem s_106_15 : Go d 106 15 [o0, some (.ref r), o2, o3, o4, o5] (st) h Q = Go d 106 16 [o0, some (.ref r), o2, o3, o4, o5] (.ref r :: st) h Q := go_lo (E := (.aload_n 1, 0, 0, 0)) rfl rfl rfl
theorem s_106_16 : Go d 106 16 L (.ref 2 :: st) (HP lx xs M) Q = Go d 106 19 L (.ref 5 :: st) (HP lx xs M) Q := go_gf rfl rfl (by decide) rfl
theorem s_106_19 : Go d 106 19 [o0, o1, o2, some (.int x), o4, o5] (st) h Q = Go d 106 20 [o0, o1, o2, some (.int x), o4, o5] (.int x :: st) h Q := go_lo (E := (.iload_n 3, 0, 0, 0)) rfl rfl rfl
theorem s_106_20 : Go d 106 20 L (.int x :: .ref 5 :: st) (HP lx xs M) Q = (ex_in x 6 = true ∧ Go d 106 21 L (.int (M 5 x.toNatClampNeg) :: st) (HP lx xs M) Q) := go_al rfl rfl
theorem s_106_21 : Go d 106 21 [o0, o1, some (.int x), o3, o4, o5] (st) h Q = Go d 106 22 [o0, o1, some (.int x), o3, o4, o5] (.int x :: st) h Q := go_lo (E := (.iload_n 2, 0, 0, 0)) rfl rfl rfl
theorem s_106_22 {a0 : Int32} {a1 : Int32} : Go (d + 1) 106 22 L [.int a1, .int a0] h Q = Go d 49 0 [some (.int a0), some (.int a1)] [] h (fun v h2 => Go (d + 1) 106 25 L (ap v []) h2 Q) := go_cx (E := (.invokestatic 27, 49, 1, 0)) (k' := 49) (as := [.int a0, .int a1]) rfl rfl rfl rfl rfl rfl rfl rfl
theorem s_106_25 : Go d 106 25 L (.int x :: st) h Q = (if x = 0 then Go d 106 40 L st h Q else Go d 106 28 L st h Q) := go_ifeq rfl
theorem s_106_28 : Go d 106 28 [some (.ref r), o1, o2, o3, o4, o5] (st) h Q = Go d 106 29 [some (.ref r), o1, o2, o3, o4, o5] (.ref r :: st) h Q := go_lo (E := (.aload_n 0, 0, 0, 0)) rfl rfl rfl
theorem s_106_29 : Go d 106 29 L (.ref r :: st) h Q = Go d 106 30 L (.ref r :: .ref r :: st) h Q := go_op (E := (.dup, 0, 0, 0)) rfl rfl
theorem s_106_30 : Go d 106 30 L (.ref 42 :: st) (HP lx xs M) Q = Go d 106 33 L (.int (M 42 1) :: st) (HP lx xs M) Q := go_gf rfl rfl (by decide) rfl
theorem s_106_33 : Go d 106 33 L (st) h Q = Go d 106 34 L (.int (nI 1) :: st) h Q := go_ic rfl ci_i1
theorem s_106_34 : Go d 106 34 [o0, o1, o2, some (.int x), o4, o5] (st) h Q = Go d 106 35 [o0, o1, o2, some (.int x), o4, o5] (.int x :: st) h Q := go_lo (E := (.iload_n 3, 0, 0, 0)) rfl rfl rfl
theorem s_106_35 : Go d 106 35 L (.int y :: .int x :: st) h Q = Go d 106 36 L (.int (x <<< (y &&& 31)) :: st) h Q := go_op (E := (.ishl, 0, 0, 0)) rfl rfl
theorem s_106_36 : Go d 106 36 L (.int y :: .int x :: st) h Q = Go d 106 37 L (.int (x ||| y) :: st) h Q := go_op (E := (.ior, 0, 0, 0)) rfl rfl
theorem s_106_37 : Go d 106 37 L (.int x :: .ref 42 :: st) (HP lx xs M) Q = Go d 106 40 L (st) (HP lx xs (up M 42 1 x)) Q := go_pf rfl rfl (by decide) (Nat.le_of_ble_eq_true rfl) rfl hf_42_1
theorem s_106_40 : Go d 106 40 [o0, o1, o2, some (.int x), o4, o5] (st) h Q = Go d 106 43 [o0, o1, o2, some (.int (x + nI 1)), o4, o5] (st) h Q := (ci_i1 ▸ go_lo (E := (.iinc 3 1, 0, 0, 0)) rfl rfl rfl : _ = Go d 106 43 [o0, o1, o2, some (.int (x + nI 1)), o4, o5] (st) h Q)
theorem s_106_43 : Go d 106 43 L (st) h Q = Go d 106 7 L (st) h Q := go_goto rfl
theorem s_106_46 : Go d 106 46 [some (.ref r), o1, o2, o3, o4, o5] (st) h Q = Go d 106 47 [some (.ref r), o1, o2, o3, o4, o5] (.ref r :: st) h Q := go_lo (E := (.aload_n 0, 0, 0, 0)) rfl rfl rfl
theorem s_106_47 : Go d 106 47 [some (.ref r), o1, o2, o3, o4, o5] (st) h Q = Go d 106 48 [some (.ref r), o1, o2, o3, o4, o5] (.ref r :: st) h Q := go_lo (E := (.aload_n 0, 0, 0, 0)) rfl rfl rfl
theorem s_106_48 : Go d 106 48 L (.ref 42 :: st) (HP lx xs M) Q = Go d 106 51 L (.int (M 42 1) :: st) (HP lx xs M) Q := go_gf rfl rfl (by decide) rfl
theorem s_106_51 : Go d 106 51 L (.int x :: .ref 42 :: st) (HP lx xs M) Q = Go d 106 54 L (st) (HP lx xs (up M 42 2 x)) Q := go_pf rfl rfl (by decide) (Nat.le_of_ble_eq_true rfl) rfl hf_42_2
theorem s_106_54 : Go d 106 54 [some (.ref r), o1, o2, o3, o4, o5] (st) h Q = Go d 106 55 [some (.ref r), o1, o2, o3, o4, o5] (.ref r :: st) h Q := go_lo (E := (.aload_n 0, 0, 0, 0)) rfl rfl rfl
theorem s_106_55 : Go d 106 55 L (.ref 42 :: st) (HP lx xs M) Q = Go d 106 58 L (.ref 43 :: st) (HP lx xs M) Q := go_gf rfl rfl (by decide) rfl
theorem s_106_58 : Go d 106 58 L (st) h Q = Go d 106 59 L (.int (nI 0) :: st) h Q := go_ic rfl ci_i0
theorem s_106_59 {a1 : Int32} {ar0 : Nat} : Go (d + 1) 106 59 L [.int a1, .ref ar0] h Q = Go d 13 0 [some (.ref ar0), some (.int a1), none, none] [] h (fun v h2 => Go (d + 1) 106 62 L (ap v []) h2 Q) := go_cx (E := (.invokestatic 34, 13, 0, 0)) (k' := 13) (as := [.ref ar0, .int a1]) rfl rfl rfl rfl rfl rfl rfl rfl
theorem s_106_62 : Go d 106 62 L (st) h Q = Go d 106 63 L (.int (nI 0) :: st) h Q := go_ic rfl ci_i0
theorem s_106_63 : Go d 106 63 [o0, o1, o2, o3, o4, o5] (.int x :: st) h Q = Go d 106 64 [o0, o1, o2, some (.int x), o4, o5] (st) h Q := go_lo (E := (.istore_n 3, 0, 0, 0)) rfl rfl rfl
theorem s_106_64 : Go d 106 64 [o0, o1, o2, some (.int x), o4, o5] (st) h Q = Go d 106 65 [o0, o1, o2, some (.int x), o4, o5] (.int x :: st) h Q := go_lo (E := (.iload_n 3, 0, 0, 0)) rfl rfl rfl
theorem s_106_65 : Go d 106 65 [o0, some (.ref r), o2, o3, o4, o5] (st) h Q = Go d 106 66 [o0, some (.ref r), o2, o3, o4, o5] (.ref r :: st) h Q := go_lo (E := (.aload_n 1, 0, 0, 0)) rfl rfl rfl
theorem s_106_66 : Go d 106 66 L (.ref 2 :: st) (HP lx xs M) Q = Go d 106 69 L (.int (M 2 0) :: st) (HP lx xs M) Q := go_gf rfl rfl (by decide) rfl
theorem s_106_69 : Go d 106 69 L (.int y :: .int x :: st) h Q = (if x < y then Go d 106 72 L st h Q else Go d 106 178 L st h Q) := go_icge rfl
theorem s_106_72 : Go d 106 72 [some (.ref r), o1, o2, o3, o4, o5] (st) h Q = Go d 106 73 [some (.ref r), o1, o2, o3, o4, o5] (.ref r :: st) h Q := go_lo (E := (.aload_n 0, 0, 0, 0)) rfl rfl rfl
theorem s_106_73 : Go d 106 73 L (.ref 42 :: st) (HP lx xs M) Q = Go d 106 76 L (.int (M 42 1) :: st) (HP lx xs M) Q := go_gf rfl rfl (by decide) rfl
theorem s_106_76 : Go d 106 76 [o0, o1, o2, some (.int x), o4, o5] (st) h Q = Go d 106 77 [o0, o1, o2, some (.int x), o4, o5] (.int x :: st) h Q := go_lo (E := (.iload_n 3, 0, 0, 0)) rfl rfl rfl
theorem s_106_77 {a0 : Int32} {a1 : Int32} : Go (d + 1) 106 77 L [.int a1, .int a0] h Q = Go d 49 0 [some (.int a0), some (.int a1)] [] h (fun v h2 => Go (d + 1) 106 80 L (ap v []) h2 Q) := go_cx (E := (.invokestatic 27, 49, 1, 0)) (k' := 49) (as := [.int a0, .int a1]) rfl rfl rfl rfl rfl rfl rfl rfl
theorem s_106_80 : Go d 106 80 L (.int x :: st) h Q = (if x = 0 then Go d 106 83 L st h Q else Go d 106 86 L st h Q) := go_ifne rfl
theorem s_106_83 : Go d 106 83 L (st) h Q = Go d 106 172 L (st) h Q := go_goto rfl
theorem s_106_86 : Go d 106 86 [o0, some (.ref r), o2, o3, o4, o5] (st) h Q = Go d 106 87 [o0, some (.ref r), o2, o3, o4, o5] (.ref r :: st) h Q := go_lo (E := (.aload_n 1, 0, 0, 0)) rfl rfl rfl
theorem s_106_87 : Go d 106 87 L (.ref 2 :: st) (HP lx xs M) Q = Go d 106 90 L (.ref 3 :: st) (HP lx xs M) Q := go_gf rfl rfl (by decide) rfl
theorem s_106_90 : Go d 106 90 [o0, o1, o2, some (.int x), o4, o5] (st) h Q = Go d 106 91 [o0, o1, o2, some (.int x), o4, o5] (.int x :: st) h Q := go_lo (E := (.iload_n 3, 0, 0, 0)) rfl rfl rfl
theorem s_106_91 : Go d 106 91 L (.int x :: .ref 3 :: st) (HP lx xs M) Q = (ex_in x 6 = true ∧ Go d 106 92 L (.int (M 3 x.toNatClampNeg) :: st) (HP lx xs M) Q) := go_al rfl rfl
theorem s_106_92 : Go d 106 92 [o0, some (.ref r), o2, o3, o4, o5] (st) h Q = Go d 106 93 [o0, some (.ref r), o2, o3, o4, o5] (.ref r :: st) h Q := go_lo (E := (.aload_n 1, 0, 0, 0)) rfl rfl rfl
theorem s_106_93 : Go d 106 93 [o0, o1, o2, some (.int x), o4, o5] (st) h Q = Go d 106 94 [o0, o1, o2, some (.int x), o4, o5] (.int x :: st) h Q := go_lo (E := (.iload_n 3, 0, 0, 0)) rfl rfl rfl
theorem s_106_94 : Go d 106 94 [o0, o1, some (.int x), o3, o4, o5] (st) h Q = Go d 106 95 [o0, o1, some (.int x), o3, o4, o5] (.int x :: st) h Q := go_lo (E := (.iload_n 2, 0, 0, 0)) rfl rfl rfl
theorem s_106_95 {a1 : Int32} {a2 : Int32} {z0 : Int32} : Go (d + 1) 106 95 L [.int a2, .int a1, .ref 2, .int z0] (HP lx xs M) Q = Go d 59 0 [some (.ref 2), some (.int a1), some (.int a2)] [] (HP lx xs M) (fun v h2 => Go (d + 1) 106 98 L (ap v [.int z0]) h2 Q) := go_cx (E := (.invokevirtual 43, 59, 0, 3)) (k' := 59) (as := [.ref 2, .int a1, .int a2]) rfl rfl rfl rfl rfl rfl rfl rfl
theorem s_106_98 {a0 : Int32} {a1 : Int32} : Go (d + 1) 106 98 L [.int a1, .int a0] h Q = Go d 50 0 [some (.int a0), some (.int a1)] [] h (fun v h2 => Go (d + 1) 106 101 L (ap v []) h2 Q) := go_cx (E := (.invokestatic 47, 50, 1, 0)) (k' := 50) (as := [.int a0, .int a1]) rfl rfl rfl rfl rfl rfl rfl rfl
theorem s_106_101 : Go d 106 101 [o0, o1, o2, o3, o4, o5] (.int x :: st) h Q = Go d 106 103 [o0, o1, o2, o3, some (.int x), o5] (st) h Q := go_lo (E := (.istore 4, 0, 0, 0)) rfl rfl rfl
theorem s_106_103 : Go d 106 103 L (st) h Q = Go d 106 104 L (.int (nI 0) :: st) h Q := go_ic rfl ci_i0
theorem s_106_104 : Go d 106 104 [o0, o1, o2, o3, o4, o5] (.int x :: st) h Q = Go d 106 106 [o0, o1, o2, o3, o4, some (.int x)] (st) h Q := go_lo (E := (.istore 5, 0, 0, 0)) rfl rfl rfl
theorem s_106_106 : Go d 106 106 [o0, o1, o2, o3, o4, some (.int x)] (st) h Q = Go d 106 108 [o0, o1, o2, o3, o4, some (.int x)] (.int x :: st) h Q := go_lo (E := (.iload 5, 0, 0, 0)) rfl rfl rfl
theorem s_106_108 : Go d 106 108 [o0, some (.ref r), o2, o3, o4, o5] (st) h Q = Go d 106 109 [o0, some (.ref r), o2, o3, o4, o5] (.ref r :: st) h Q := go_lo (E := (.aload_n 1, 0, 0, 0)) rfl rfl rfl
theorem s_106_109 : Go d 106 109 L (.ref 2 :: st) (HP lx xs M) Q = Go d 106 112 L (.int (M 2 0) :: st) (HP lx xs M) Q := go_gf rfl rfl (by decide) rfl
theorem s_106_112 : Go d 106 112 L (.int y :: .int x :: st) h Q = (if x < y then Go d 106 115 L st h Q else Go d 106 172 L st h Q) := go_icge rfl
theorem s_106_115 : Go d 106 115 [some (.ref r), o1, o2, o3, o4, o5] (st) h Q = Go d 106 116 [some (.ref r), o1, o2, o3, o4, o5] (.ref r :: st) h Q := go_lo (E := (.aload_n 0, 0, 0, 0)) rfl rfl rfl
theorem s_106_116 : Go d 106 116 L (.ref 42 :: st) (HP lx xs M) Q = Go d 106 119 L (.int (M 42 1) :: st) (HP lx xs M) Q := go_gf rfl rfl (by decide) rfl
theorem s_106_119 : Go d 106 119 [o0, o1, o2, o3, o4, some (.int x)] (st) h Q = Go d 106 121 [o0, o1, o2, o3, o4, some (.int x)] (.int x :: st) h Q := go_lo (E := (.iload 5, 0, 0, 0)) rfl rfl rfl
theorem s_106_121 {a0 : Int32} {a1 : Int32} : Go (d + 1) 106 121 L [.int a1, .int a0] h Q = Go d 49 0 [some (.int a0), some (.int a1)] [] h (fun v h2 => Go (d + 1) 106 124 L (ap v []) h2 Q) := go_cx (E := (.invokestatic 27, 49, 1, 0)) (k' := 49) (as := [.int a0, .int a1]) rfl rfl rfl rfl rfl rfl rfl rfl
theorem s_106_124 : Go d 106 124 L (.int x :: st) h Q = (if x = 0 then Go d 106 166 L st h Q else Go d 106 127 L st h Q) := go_ifeq rfl
theorem s_106_127 : Go d 106 127 [o0, some (.ref r), o2, o3, o4, o5] (st) h Q = Go d 106 128 [o0, some (.ref r), o2, o3, o4, o5] (.ref r :: st) h Q := go_lo (E := (.aload_n 1, 0, 0, 0)) rfl rfl rfl
theorem s_106_128 : Go d 106 128 L (.ref 2 :: st) (HP lx xs M) Q = Go d 106 131 L (.ref 6 :: st) (HP lx xs M) Q := go_gf rfl rfl (by decide) rfl
theorem s_106_131 : Go d 106 131 [o0, o1, o2, o3, o4, some (.int x)] (st) h Q = Go d 106 133 [o0, o1, o2, o3, o4, some (.int x)] (.int x :: st) h Q := go_lo (E := (.iload 5, 0, 0, 0)) rfl rfl rfl
theorem s_106_133 : Go d 106 133 L (.int x :: .ref 6 :: st) (HP lx xs M) Q = (ex_in x 6 = true ∧ Go d 106 134 L (.int (M 6 x.toNatClampNeg) :: st) (HP lx xs M) Q) := go_al rfl rfl
theorem s_106_134 : Go d 106 134 [o0, o1, o2, some (.int x), o4, o5] (st) h Q = Go d 106 135 [o0, o1, o2, some (.int x), o4, o5] (.int x :: st) h Q := go_lo (E := (.iload_n 3, 0, 0, 0)) rfl rfl rfl
theorem s_106_135 {a0 : Int32} {a1 : Int32} : Go (d + 1) 106 135 L [.int a1, .int a0] h Q = Go d 49 0 [some (.int a0), some (.int a1)] [] h (fun v h2 => Go (d + 1) 106 138 L (ap v []) h2 Q) := go_cx (E := (.invokestatic 27, 49, 1, 0)) (k' := 49) (as := [.int a0, .int a1]) rfl rfl rfl rfl rfl rfl rfl rfl
theorem s_106_138 : Go d 106 138 L (.int x :: st) h Q = (if x = 0 then Go d 106 166 L st h Q else Go d 106 141 L st h Q) := go_ifeq rfl
theorem s_106_141 : Go d 106 141 [o0, some (.ref r), o2, o3, o4, o5] (st) h Q = Go d 106 142 [o0, some (.ref r), o2, o3, o4, o5] (.ref r :: st) h Q := go_lo (E := (.aload_n 1, 0, 0, 0)) rfl rfl rfl
theorem s_106_142 : Go d 106 142 [o0, o1, o2, o3, o4, some (.int x)] (st) h Q = Go d 106 144 [o0, o1, o2, o3, o4, some (.int x)] (.int x :: st) h Q := go_lo (E := (.iload 5, 0, 0, 0)) rfl rfl rfl
theorem s_106_144 : Go d 106 144 [o0, o1, some (.int x), o3, o4, o5] (st) h Q = Go d 106 145 [o0, o1, some (.int x), o3, o4, o5] (.int x :: st) h Q := go_lo (E := (.iload_n 2, 0, 0, 0)) rfl rfl rfl
theorem s_106_145 {a1 : Int32} {a2 : Int32} : Go (d + 1) 106 145 L [.int a2, .int a1, .ref 2] (HP lx xs M) Q = Go d 59 0 [some (.ref 2), some (.int a1), some (.int a2)] [] (HP lx xs M) (fun v h2 => Go (d + 1) 106 148 L (ap v []) h2 Q) := go_cx (E := (.invokevirtual 43, 59, 0, 3)) (k' := 59) (as := [.ref 2, .int a1, .int a2]) rfl rfl rfl rfl rfl rfl rfl rfl
theorem s_106_148 : Go d 106 148 [o0, o1, o2, o3, some (.int x), o5] (st) h Q = Go d 106 150 [o0, o1, o2, o3, some (.int x), o5] (.int x :: st) h Q := go_lo (E := (.iload 4, 0, 0, 0)) rfl rfl rfl
theorem s_106_150 : Go d 106 150 L (.int y :: .int x :: st) h Q = (if x = y then Go d 106 153 L st h Q else Go d 106 166 L st h Q) := go_icne rfl
theorem s_106_153 : Go d 106 153 [some (.ref r), o1, o2, o3, o4, o5] (st) h Q = Go d 106 154 [some (.ref r), o1, o2, o3, o4, o5] (.ref r :: st) h Q := go_lo (E := (.aload_n 0, 0, 0, 0)) rfl rfl rfl
theorem s_106_154 : Go d 106 154 L (.ref 42 :: st) (HP lx xs M) Q = Go d 106 157 L (.ref 43 :: st) (HP lx xs M) Q := go_gf rfl rfl (by decide) rfl
theorem s_106_157 : Go d 106 157 [o0, o1, o2, o3, o4, some (.int x)] (st) h Q = Go d 106 159 [o0, o1, o2, o3, o4, some (.int x)] (.int x :: st) h Q := go_lo (E := (.iload 5, 0, 0, 0)) rfl rfl rfl
theorem s_106_159 : Go d 106 159 L (.int x :: .ref r2 :: st) h Q = Go d 106 160 L (.int x :: .ref r2 :: .int x :: .ref r2 :: st) h Q := go_op (E := (.dup2, 0, 0, 0)) rfl rfl
theorem s_106_160 : Go d 106 160 L (.int x :: .ref 43 :: st) (HP lx xs M) Q = (ex_in x 6 = true ∧ Go d 106 161 L (.int (M 43 x.toNatClampNeg) :: st) (HP lx xs M) Q) := go_al rfl rfl
theorem s_106_161 : Go d 106 161 L (st) h Q = Go d 106 162 L (.int (nI 1) :: st) h Q := go_ic rfl ci_i1
theorem s_106_162 : Go d 106 162 [o0, o1, o2, some (.int x), o4, o5] (st) h Q = Go d 106 163 [o0, o1, o2, some (.int x), o4, o5] (.int x :: st) h Q := go_lo (E := (.iload_n 3, 0, 0, 0)) rfl rfl rfl
theorem s_106_163 : Go d 106 163 L (.int y :: .int x :: st) h Q = Go d 106 164 L (.int (x <<< (y &&& 31)) :: st) h Q := go_op (E := (.ishl, 0, 0, 0)) rfl rfl
theorem s_106_164 : Go d 106 164 L (.int y :: .int x :: st) h Q = Go d 106 165 L (.int (x ||| y) :: st) h Q := go_op (E := (.ior, 0, 0, 0)) rfl rfl
theorem s_106_165 : Go d 106 165 L (.int y :: .int x :: .ref 43 :: st) (HP lx xs M) Q = (ex_in x 6 = true ∧ Go d 106 166 L (st) (HP lx xs (up M 43 x.toNatClampNeg y)) Q) := go_as rfl rfl (by decide) hs_43
theorem s_106_166 : Go d 106 166 [o0, o1, o2, o3, o4, some (.int x)] (st) h Q = Go d 106 169 [o0, o1, o2, o3, o4, some (.int (x + nI 1))] (st) h Q := (ci_i1 ▸ go_lo (E := (.iinc 5 1, 0, 0, 0)) rfl rfl rfl : _ = Go d 106 169 [o0, o1, o2, o3, o4, some (.int (x + nI 1))] (st) h Q)
set_option maxRecDepth 30000 in
theorem s_106_169 : Go d 106 169 L (st) h Q = Go d 106 106 L (st) h Q := go_goto rfl
set_option maxRecDepth 30000 in
theorem s_106_172 : Go d 106 172 [o0, o1, o2, some (.int x), o4, o5] (st) h Q = Go d 106 175 [o0, o1, o2, some (.int (x + nI 1)), o4, o5] (st) h Q := (ci_i1 ▸ go_lo (E := (.iinc 3 1, 0, 0, 0)) rfl rfl rfl : _ = Go d 106 175 [o0, o1, o2, some (.int (x + nI 1)), o4, o5] (st) h Q)
set_option maxRecDepth 30000 in
theorem s_106_175 : Go d 106 175 L (st) h Q = Go d 106 64 L (st) h Q := go_goto rfl
set_option maxRecDepth 30000 in
theorem s_106_178 : Go d 106 178 L [] h Q = Q none h := go_rv rfl rfl
theorem s_107_0 : Go d 107 0 L (st) h Q = Go d 107 1 L (.int (nI 0) :: st) h Q := go_ic rfl ci_i0
theorem s_107_1 : Go d 107 1 [o0, o1, o2] (.int x :: st) h Q = Go d 107 2 [o0, some (.int x), o2] (st) h Q := go_lo (E := (.istore_n 1, 0, 0, 0)) rfl rfl rfl
theorem s_107_2 : Go d 107 2 L (st) h Q = Go d 107 3 L (.int (nI 0) :: st) h Q := go_ic rfl ci_i0
theorem s_107_3 : Go d 107 3 [o0, o1, o2] (.int x :: st) h Q = Go d 107 4 [o0, o1, some (.int x)] (st) h Q := go_lo (E := (.istore_n 2, 0, 0, 0)) rfl rfl rfl
theorem s_107_4 : Go d 107 4 [o0, o1, some (.int x)] (st) h Q = Go d 107 5 [o0, o1, some (.int x)] (.int x :: st) h Q := go_lo (E := (.iload_n 2, 0, 0, 0)) rfl rfl rfl
theorem s_107_5 : Go d 107 5 L (st) h Q = Go d 107 7 L (.int (nI 6) :: st) h Q := go_bi rfl ci_b6
theorem s_107_7 : Go d 107 7 L (.int y :: .int x :: st) h Q = (if x < y then Go d 107 10 L st h Q else Go d 107 56 L st h Q) := go_icge rfl
theorem s_107_10 : Go d 107 10 [some (.ref r), o1, o2] (st) h Q = Go d 107 11 [some (.ref r), o1, o2] (.ref r :: st) h Q := go_lo (E := (.aload_n 0, 0, 0, 0)) rfl rfl rfl
theorem s_107_11 : Go d 107 11 L (.ref 42 :: st) (HP lx xs M) Q = Go d 107 14 L (.int (M 42 1) :: st) (HP lx xs M) Q := go_gf rfl rfl (by decide) rfl
theorem s_107_14 : Go d 107 14 [o0, o1, some (.int x)] (st) h Q = Go d 107 15 [o0, o1, some (.int x)] (.int x :: st) h Q := go_lo (E := (.iload_n 2, 0, 0, 0)) rfl rfl rfl
theorem s_107_15 {a0 : Int32} {a1 : Int32} : Go (d + 1) 107 15 L [.int a1, .int a0] h Q = Go d 49 0 [some (.int a0), some (.int a1)] [] h (fun v h2 => Go (d + 1) 107 18 L (ap v []) h2 Q) := go_cx (E := (.invokestatic 27, 49, 1, 0)) (k' := 49) (as := [.int a0, .int a1]) rfl rfl rfl rfl rfl rfl rfl rfl
theorem s_107_18 : Go d 107 18 L (.int x :: st) h Q = (if x = 0 then Go d 107 21 L st h Q else Go d 107 24 L st h Q) := go_ifne rfl
theorem s_107_21 : Go d 107 21 L (st) h Q = Go d 107 50 L (st) h Q := go_goto rfl
theorem s_107_24 : Go d 107 24 [some (.ref r), o1, o2] (st) h Q = Go d 107 25 [some (.ref r), o1, o2] (.ref r :: st) h Q := go_lo (E := (.aload_n 0, 0, 0, 0)) rfl rfl rfl
theorem s_107_25 : Go d 107 25 [some (.ref r), o1, o2] (st) h Q = Go d 107 26 [some (.ref r), o1, o2] (.ref r :: st) h Q := go_lo (E := (.aload_n 0, 0, 0, 0)) rfl rfl rfl
theorem s_107_26 : Go d 107 26 L (.ref 42 :: st) (HP lx xs M) Q = Go d 107 29 L (.int (M 42 1) :: st) (HP lx xs M) Q := go_gf rfl rfl (by decide) rfl
theorem s_107_29 : Go d 107 29 L (st) h Q = Go d 107 30 L (.int (nI 1) :: st) h Q := go_ic rfl ci_i1
theorem s_107_30 : Go d 107 30 [o0, o1, some (.int x)] (st) h Q = Go d 107 31 [o0, o1, some (.int x)] (.int x :: st) h Q := go_lo (E := (.iload_n 2, 0, 0, 0)) rfl rfl rfl
theorem s_107_31 : Go d 107 31 L (.int y :: .int x :: st) h Q = Go d 107 32 L (.int (x <<< (y &&& 31)) :: st) h Q := go_op (E := (.ishl, 0, 0, 0)) rfl rfl
theorem s_107_32 : Go d 107 32 L (st) h Q = Go d 107 33 L (.int (-1) :: st) h Q := go_ic rfl ci_im1
theorem s_107_33 : Go d 107 33 L (.int y :: .int x :: st) h Q = Go d 107 34 L (.int (x ^^^ y) :: st) h Q := go_op (E := (.ixor, 0, 0, 0)) rfl rfl
theorem s_107_34 : Go d 107 34 L (.int y :: .int x :: st) h Q = Go d 107 35 L (.int (x &&& y) :: st) h Q := go_op (E := (.iand, 0, 0, 0)) rfl rfl
theorem s_107_35 : Go d 107 35 L (.int x :: .ref 42 :: st) (HP lx xs M) Q = Go d 107 38 L (st) (HP lx xs (up M 42 3 x)) Q := go_pf rfl rfl (by decide) (Nat.le_of_ble_eq_true rfl) rfl hf_42_3
theorem s_107_38 : Go d 107 38 [o0, some (.int x), o2] (st) h Q = Go d 107 39 [o0, some (.int x), o2] (.int x :: st) h Q := go_lo (E := (.iload_n 1, 0, 0, 0)) rfl rfl rfl
theorem s_107_39 : Go d 107 39 [some (.ref r), o1, o2] (st) h Q = Go d 107 40 [some (.ref r), o1, o2] (.ref r :: st) h Q := go_lo (E := (.aload_n 0, 0, 0, 0)) rfl rfl rfl
theorem s_107_40 : Go d 107 40 L (st) h Q = Go d 107 41 L (.int (nI 0) :: st) h Q := go_ic rfl ci_i0
theorem s_107_41 : Go d 107 41 [some (.ref r), o1, o2] (st) h Q = Go d 107 42 [some (.ref r), o1, o2] (.ref r :: st) h Q := go_lo (E := (.aload_n 0, 0, 0, 0)) rfl rfl rfl
theorem s_107_42 : Go d 107 42 L (.ref 42 :: st) (HP lx xs M) Q = Go d 107 45 L (.int (M 42 3) :: st) (HP lx xs M) Q := go_gf rfl rfl (by decide) rfl
theorem s_107_45 {a1 : Int32} {a2 : Int32} {z0 : Int32} : Go (d + 1) 107 45 L [.int a2, .int a1, .ref 42, .int z0] (HP lx xs M) Q = Go d 108 0 [some (.ref 42), some (.int a1), some (.int a2), none, none, none, none] [] (HP lx xs M) (fun v h2 => Go (d + 1) 107 48 L (ap v [.int z0]) h2 Q) := go_cx (E := (.invokevirtual 56, 108, 0, 2)) (k' := 108) (as := [.ref 42, .int a1, .int a2]) rfl rfl rfl rfl rfl rfl rfl rfl
theorem s_107_48 : Go d 107 48 L (.int y :: .int x :: st) h Q = Go d 107 49 L (.int (x + y) :: st) h Q := go_op (E := (.iadd, 0, 0, 0)) rfl rfl
theorem s_107_49 : Go d 107 49 [o0, o1, o2] (.int x :: st) h Q = Go d 107 50 [o0, some (.int x), o2] (st) h Q := go_lo (E := (.istore_n 1, 0, 0, 0)) rfl rfl rfl
theorem s_107_50 : Go d 107 50 [o0, o1, some (.int x)] (st) h Q = Go d 107 53 [o0, o1, some (.int (x + nI 1))] (st) h Q := (ci_i1 ▸ go_lo (E := (.iinc 2 1, 0, 0, 0)) rfl rfl rfl : _ = Go d 107 53 [o0, o1, some (.int (x + nI 1))] (st) h Q)
theorem s_107_53 : Go d 107 53 L (st) h Q = Go d 107 4 L (st) h Q := go_goto rfl
theorem s_107_56 : Go d 107 56 [o0, some (.int x), o2] (st) h Q = Go d 107 57 [o0, some (.int x), o2] (.int x :: st) h Q := go_lo (E := (.iload_n 1, 0, 0, 0)) rfl rfl rfl
theorem s_107_57 : Go d 107 57 L [.int x] h Q = Q (some (.int x)) h := go_ri rfl rfl
theorem s_108_0 : Go d 108 0 [o0, some (.int x), o2, o3, o4, o5, o6] (st) h Q = Go d 108 1 [o0, some (.int x), o2, o3, o4, o5, o6] (.int x :: st) h Q := go_lo (E := (.iload_n 1, 0, 0, 0)) rfl rfl rfl
theorem s_108_1 : Go d 108 1 L (st) h Q = Go d 108 3 L (.int (nI 6) :: st) h Q := go_bi rfl ci_b6
theorem s_108_3 : Go d 108 3 L (.int y :: .int x :: st) h Q = (if x < y then Go d 108 8 L st h Q else Go d 108 6 L st h Q) := go_iclt rfl
theorem s_108_6 : Go d 108 6 L (st) h Q = Go d 108 7 L (.int (nI 1) :: st) h Q := go_ic rfl ci_i1
theorem s_108_7 : Go d 108 7 L [.int x] h Q = Q (some (.int x)) h := go_ri rfl rfl
theorem s_108_8 : Go d 108 8 [some (.ref r), o1, o2, o3, o4, o5, o6] (st) h Q = Go d 108 9 [some (.ref r), o1, o2, o3, o4, o5, o6] (.ref r :: st) h Q := go_lo (E := (.aload_n 0, 0, 0, 0)) rfl rfl rfl
theorem s_108_9 : Go d 108 9 L (.ref 42 :: st) (HP lx xs M) Q = Go d 108 12 L (.int (M 42 3) :: st) (HP lx xs M) Q := go_gf rfl rfl (by decide) rfl
theorem s_108_12 : Go d 108 12 [o0, some (.int x), o2, o3, o4, o5, o6] (st) h Q = Go d 108 13 [o0, some (.int x), o2, o3, o4, o5, o6] (.int x :: st) h Q := go_lo (E := (.iload_n 1, 0, 0, 0)) rfl rfl rfl
theorem s_108_13 {a0 : Int32} {a1 : Int32} : Go (d + 1) 108 13 L [.int a1, .int a0] h Q = Go d 49 0 [some (.int a0), some (.int a1)] [] h (fun v h2 => Go (d + 1) 108 16 L (ap v []) h2 Q) := go_cx (E := (.invokestatic 27, 49, 1, 0)) (k' := 49) (as := [.int a0, .int a1]) rfl rfl rfl rfl rfl rfl rfl rfl
theorem s_108_16 : Go d 108 16 L (.int x :: st) h Q = (if x = 0 then Go d 108 19 L st h Q else Go d 108 28 L st h Q) := go_ifne rfl
theorem s_108_19 : Go d 108 19 [some (.ref r), o1, o2, o3, o4, o5, o6] (st) h Q = Go d 108 20 [some (.ref r), o1, o2, o3, o4, o5, o6] (.ref r :: st) h Q := go_lo (E := (.aload_n 0, 0, 0, 0)) rfl rfl rfl
theorem s_108_20 : Go d 108 20 [o0, some (.int x), o2, o3, o4, o5, o6] (st) h Q = Go d 108 21 [o0, some (.int x), o2, o3, o4, o5, o6] (.int x :: st) h Q := go_lo (E := (.iload_n 1, 0, 0, 0)) rfl rfl rfl
theorem s_108_21 : Go d 108 21 L (st) h Q = Go d 108 22 L (.int (nI 1) :: st) h Q := go_ic rfl ci_i1
theorem s_108_22 : Go d 108 22 L (.int y :: .int x :: st) h Q = Go d 108 23 L (.int (x + y) :: st) h Q := go_op (E := (.iadd, 0, 0, 0)) rfl rfl
theorem s_108_23 : Go d 108 23 [o0, o1, some (.int x), o3, o4, o5, o6] (st) h Q = Go d 108 24 [o0, o1, some (.int x), o3, o4, o5, o6] (.int x :: st) h Q := go_lo (E := (.iload_n 2, 0, 0, 0)) rfl rfl rfl
theorem s_108_24 {a1 : Int32} {a2 : Int32} : Go (d + 1) 108 24 L [.int a2, .int a1, .ref 42] (HP lx xs M) Q = Go d 108 0 [some (.ref 42), some (.int a1), some (.int a2), none, none, none, none] [] (HP lx xs M) (fun v h2 => Go (d + 1) 108 27 L (ap v []) h2 Q) := go_cx (E := (.invokevirtual 56, 108, 0, 2)) (k' := 108) (as := [.ref 42, .int a1, .int a2]) rfl rfl rfl rfl rfl rfl rfl rfl
theorem s_108_27 : Go d 108 27 L [.int x] h Q = Q (some (.int x)) h := go_ri rfl rfl
theorem s_108_28 : Go d 108 28 L (st) h Q = Go d 108 29 L (.int (nI 0) :: st) h Q := go_ic rfl ci_i0
theorem s_108_29 : Go d 108 29 [o0, o1, o2, o3, o4, o5, o6] (.int x :: st) h Q = Go d 108 30 [o0, o1, o2, some (.int x), o4, o5, o6] (st) h Q := go_lo (E := (.istore_n 3, 0, 0, 0)) rfl rfl rfl
theorem s_108_30 : Go d 108 30 L (st) h Q = Go d 108 31 L (.int (nI 1) :: st) h Q := go_ic rfl ci_i1
theorem s_108_31 : Go d 108 31 [o0, o1, o2, o3, o4, o5, o6] (.int x :: st) h Q = Go d 108 33 [o0, o1, o2, o3, some (.int x), o5, o6] (st) h Q := go_lo (E := (.istore 4, 0, 0, 0)) rfl rfl rfl
theorem s_108_33 : Go d 108 33 L (st) h Q = Go d 108 34 L (.int (nI 0) :: st) h Q := go_ic rfl ci_i0
theorem s_108_34 : Go d 108 34 [o0, o1, o2, o3, o4, o5, o6] (.int x :: st) h Q = Go d 108 36 [o0, o1, o2, o3, o4, some (.int x), o6] (st) h Q := go_lo (E := (.istore 5, 0, 0, 0)) rfl rfl rfl
theorem s_108_36 : Go d 108 36 [o0, o1, o2, o3, o4, some (.int x), o6] (st) h Q = Go d 108 38 [o0, o1, o2, o3, o4, some (.int x), o6] (.int x :: st) h Q := go_lo (E := (.iload 5, 0, 0, 0)) rfl rfl rfl
theorem s_108_38 : Go d 108 38 L (st) h Q = Go d 108 40 L (.int (nI 6) :: st) h Q := go_bi rfl ci_b6
theorem s_108_40 : Go d 108 40 L (.int y :: .int x :: st) h Q = (if x < y then Go d 108 43 L st h Q else Go d 108 134 L st h Q) := go_icge rfl
theorem s_108_43 : Go d 108 43 [o0, o1, some (.int x), o3, o4, o5, o6] (st) h Q = Go d 108 44 [o0, o1, some (.int x), o3, o4, o5, o6] (.int x :: st) h Q := go_lo (E := (.iload_n 2, 0, 0, 0)) rfl rfl rfl
theorem s_108_44 : Go d 108 44 [o0, o1, o2, o3, o4, some (.int x), o6] (st) h Q = Go d 108 46 [o0, o1, o2, o3, o4, some (.int x), o6] (.int x :: st) h Q := go_lo (E := (.iload 5, 0, 0, 0)) rfl rfl rfl
theorem s_108_46 {a0 : Int32} {a1 : Int32} : Go (d + 1) 108 46 L [.int a1, .int a0] h Q = Go d 49 0 [some (.int a0), some (.int a1)] [] h (fun v h2 => Go (d + 1) 108 49 L (ap v []) h2 Q) := go_cx (E := (.invokestatic 27, 49, 1, 0)) (k' := 49) (as := [.int a0, .int a1]) rfl rfl rfl rfl rfl rfl rfl rfl
theorem s_108_49 : Go d 108 49 L (.int x :: st) h Q = (if x = 0 then Go d 108 52 L st h Q else Go d 108 55 L st h Q) := go_ifne rfl
theorem s_108_52 : Go d 108 52 L (st) h Q = Go d 108 128 L (st) h Q := go_goto rfl
theorem s_108_55 : Go d 108 55 [o0, o1, o2, o3, o4, some (.int x), o6] (st) h Q = Go d 108 57 [o0, o1, o2, o3, o4, some (.int x), o6] (.int x :: st) h Q := go_lo (E := (.iload 5, 0, 0, 0)) rfl rfl rfl
theorem s_108_57 : Go d 108 57 [o0, some (.int x), o2, o3, o4, o5, o6] (st) h Q = Go d 108 58 [o0, some (.int x), o2, o3, o4, o5, o6] (.int x :: st) h Q := go_lo (E := (.iload_n 1, 0, 0, 0)) rfl rfl rfl
theorem s_108_58 : Go d 108 58 L (.int y :: .int x :: st) h Q = (if x = y then Go d 108 61 L st h Q else Go d 108 73 L st h Q) := go_icne rfl
theorem s_108_61 : Go d 108 61 [some (.ref r), o1, o2, o3, o4, o5, o6] (st) h Q = Go d 108 62 [some (.ref r), o1, o2, o3, o4, o5, o6] (.ref r :: st) h Q := go_lo (E := (.aload_n 0, 0, 0, 0)) rfl rfl rfl
theorem s_108_62 : Go d 108 62 L (.ref 42 :: st) (HP lx xs M) Q = Go d 108 65 L (.ref 43 :: st) (HP lx xs M) Q := go_gf rfl rfl (by decide) rfl
theorem s_108_65 : Go d 108 65 [o0, some (.int x), o2, o3, o4, o5, o6] (st) h Q = Go d 108 66 [o0, some (.int x), o2, o3, o4, o5, o6] (.int x :: st) h Q := go_lo (E := (.iload_n 1, 0, 0, 0)) rfl rfl rfl
theorem s_108_66 : Go d 108 66 L (.int x :: .ref 43 :: st) (HP lx xs M) Q = (ex_in x 6 = true ∧ Go d 108 67 L (.int (M 43 x.toNatClampNeg) :: st) (HP lx xs M) Q) := go_al rfl rfl
theorem s_108_67 {a0 : Int32} : Go (d + 1) 108 67 L [.int a0] h Q = Go d 12 0 [some (.int a0)] [] h (fun v h2 => Go (d + 1) 108 70 L (ap v []) h2 Q) := go_cx (E := (.invokestatic 59, 12, 0, 0)) (k' := 12) (as := [.int a0]) rfl rfl rfl rfl rfl rfl rfl rfl
theorem s_108_70 : Go d 108 70 L (st) h Q = Go d 108 92 L (st) h Q := go_goto rfl
theorem s_108_73 : Go d 108 73 [some (.ref r), o1, o2, o3, o4, o5, o6] (st) h Q = Go d 108 74 [some (.ref r), o1, o2, o3, o4, o5, o6] (.ref r :: st) h Q := go_lo (E := (.aload_n 0, 0, 0, 0)) rfl rfl rfl
theorem s_108_74 : Go d 108 74 L (.ref 42 :: st) (HP lx xs M) Q = Go d 108 77 L (.ref 43 :: st) (HP lx xs M) Q := go_gf rfl rfl (by decide) rfl
theorem s_108_77 : Go d 108 77 [o0, some (.int x), o2, o3, o4, o5, o6] (st) h Q = Go d 108 78 [o0, some (.int x), o2, o3, o4, o5, o6] (.int x :: st) h Q := go_lo (E := (.iload_n 1, 0, 0, 0)) rfl rfl rfl
theorem s_108_78 : Go d 108 78 L (.int x :: .ref 43 :: st) (HP lx xs M) Q = (ex_in x 6 = true ∧ Go d 108 79 L (.int (M 43 x.toNatClampNeg) :: st) (HP lx xs M) Q) := go_al rfl rfl
theorem s_108_79 : Go d 108 79 [o0, o1, o2, o3, o4, some (.int x), o6] (st) h Q = Go d 108 81 [o0, o1, o2, o3, o4, some (.int x), o6] (.int x :: st) h Q := go_lo (E := (.iload 5, 0, 0, 0)) rfl rfl rfl
theorem s_108_81 {a0 : Int32} {a1 : Int32} : Go (d + 1) 108 81 L [.int a1, .int a0] h Q = Go d 49 0 [some (.int a0), some (.int a1)] [] h (fun v h2 => Go (d + 1) 108 84 L (ap v []) h2 Q) := go_cx (E := (.invokestatic 27, 49, 1, 0)) (k' := 49) (as := [.int a0, .int a1]) rfl rfl rfl rfl rfl rfl rfl rfl
theorem s_108_84 : Go d 108 84 L (.int x :: st) h Q = (if x = 0 then Go d 108 91 L st h Q else Go d 108 87 L st h Q) := go_ifeq rfl
theorem s_108_87 : Go d 108 87 L (st) h Q = Go d 108 88 L (.int (-1) :: st) h Q := go_ic rfl ci_im1
theorem s_108_88 : Go d 108 88 L (st) h Q = Go d 108 92 L (st) h Q := go_goto rfl
theorem s_108_91 : Go d 108 91 L (st) h Q = Go d 108 92 L (.int (nI 0) :: st) h Q := go_ic rfl ci_i0
theorem s_108_92 : Go d 108 92 [o0, o1, o2, o3, o4, o5, o6] (.int x :: st) h Q = Go d 108 94 [o0, o1, o2, o3, o4, o5, some (.int x)] (st) h Q := go_lo (E := (.istore 6, 0, 0, 0)) rfl rfl rfl
theorem s_108_94 : Go d 108 94 [o0, o1, o2, o3, o4, o5, some (.int x)] (st) h Q = Go d 108 96 [o0, o1, o2, o3, o4, o5, some (.int x)] (.int x :: st) h Q := go_lo (E := (.iload 6, 0, 0, 0)) rfl rfl rfl
theorem s_108_96 : Go d 108 96 L (.int x :: st) h Q = (if x = 0 then Go d 108 123 L st h Q else Go d 108 99 L st h Q) := go_ifeq rfl
theorem s_108_99 : Go d 108 99 [o0, o1, o2, some (.int x), o4, o5, o6] (st) h Q = Go d 108 100 [o0, o1, o2, some (.int x), o4, o5, o6] (.int x :: st) h Q := go_lo (E := (.iload_n 3, 0, 0, 0)) rfl rfl rfl
theorem s_108_100 : Go d 108 100 [o0, o1, o2, o3, some (.int x), o5, o6] (st) h Q = Go d 108 102 [o0, o1, o2, o3, some (.int x), o5, o6] (.int x :: st) h Q := go_lo (E := (.iload 4, 0, 0, 0)) rfl rfl rfl
theorem s_108_102 : Go d 108 102 [o0, o1, o2, o3, o4, o5, some (.int x)] (st) h Q = Go d 108 104 [o0, o1, o2, o3, o4, o5, some (.int x)] (.int x :: st) h Q := go_lo (E := (.iload 6, 0, 0, 0)) rfl rfl rfl
theorem s_108_104 : Go d 108 104 L (.int y :: .int x :: st) h Q = Go d 108 105 L (.int (x * y) :: st) h Q := go_op (E := (.imul, 0, 0, 0)) rfl rfl
theorem s_108_105 : Go d 108 105 [some (.ref r), o1, o2, o3, o4, o5, o6] (st) h Q = Go d 108 106 [some (.ref r), o1, o2, o3, o4, o5, o6] (.ref r :: st) h Q := go_lo (E := (.aload_n 0, 0, 0, 0)) rfl rfl rfl
theorem s_108_106 : Go d 108 106 [o0, some (.int x), o2, o3, o4, o5, o6] (st) h Q = Go d 108 107 [o0, some (.int x), o2, o3, o4, o5, o6] (.int x :: st) h Q := go_lo (E := (.iload_n 1, 0, 0, 0)) rfl rfl rfl
theorem s_108_107 : Go d 108 107 L (st) h Q = Go d 108 108 L (.int (nI 1) :: st) h Q := go_ic rfl ci_i1
theorem s_108_108 : Go d 108 108 L (.int y :: .int x :: st) h Q = Go d 108 109 L (.int (x + y) :: st) h Q := go_op (E := (.iadd, 0, 0, 0)) rfl rfl
theorem s_108_109 : Go d 108 109 [o0, o1, some (.int x), o3, o4, o5, o6] (st) h Q = Go d 108 110 [o0, o1, some (.int x), o3, o4, o5, o6] (.int x :: st) h Q := go_lo (E := (.iload_n 2, 0, 0, 0)) rfl rfl rfl
theorem s_108_110 : Go d 108 110 L (st) h Q = Go d 108 111 L (.int (nI 1) :: st) h Q := go_ic rfl ci_i1
theorem s_108_111 : Go d 108 111 [o0, o1, o2, o3, o4, some (.int x), o6] (st) h Q = Go d 108 113 [o0, o1, o2, o3, o4, some (.int x), o6] (.int x :: st) h Q := go_lo (E := (.iload 5, 0, 0, 0)) rfl rfl rfl
theorem s_108_113 : Go d 108 113 L (.int y :: .int x :: st) h Q = Go d 108 114 L (.int (x <<< (y &&& 31)) :: st) h Q := go_op (E := (.ishl, 0, 0, 0)) rfl rfl
theorem s_108_114 : Go d 108 114 L (st) h Q = Go d 108 115 L (.int (-1) :: st) h Q := go_ic rfl ci_im1
theorem s_108_115 : Go d 108 115 L (.int y :: .int x :: st) h Q = Go d 108 116 L (.int (x ^^^ y) :: st) h Q := go_op (E := (.ixor, 0, 0, 0)) rfl rfl
theorem s_108_116 : Go d 108 116 L (.int y :: .int x :: st) h Q = Go d 108 117 L (.int (x &&& y) :: st) h Q := go_op (E := (.iand, 0, 0, 0)) rfl rfl
theorem s_108_117 {a1 : Int32} {a2 : Int32} {z0 : Int32} {z1 : Int32} : Go (d + 1) 108 117 L [.int a2, .int a1, .ref 42, .int z1, .int z0] (HP lx xs M) Q = Go d 108 0 [some (.ref 42), some (.int a1), some (.int a2), none, none, none, none] [] (HP lx xs M) (fun v h2 => Go (d + 1) 108 120 L (ap v [.int z1, .int z0]) h2 Q) := go_cx (E := (.invokevirtual 56, 108, 0, 2)) (k' := 108) (as := [.ref 42, .int a1, .int a2]) rfl rfl rfl rfl rfl rfl rfl rfl
theorem s_108_120 : Go d 108 120 L (.int y :: .int x :: st) h Q = Go d 108 121 L (.int (x * y) :: st) h Q := go_op (E := (.imul, 0, 0, 0)) rfl rfl
theorem s_108_121 : Go d 108 121 L (.int y :: .int x :: st) h Q = Go d 108 122 L (.int (x + y) :: st) h Q := go_op (E := (.iadd, 0, 0, 0)) rfl rfl
theorem s_108_122 : Go d 108 122 [o0, o1, o2, o3, o4, o5, o6] (.int x :: st) h Q = Go d 108 123 [o0, o1, o2, some (.int x), o4, o5, o6] (st) h Q := go_lo (E := (.istore_n 3, 0, 0, 0)) rfl rfl rfl
theorem s_108_123 : Go d 108 123 [o0, o1, o2, o3, some (.int x), o5, o6] (st) h Q = Go d 108 125 [o0, o1, o2, o3, some (.int x), o5, o6] (.int x :: st) h Q := go_lo (E := (.iload 4, 0, 0, 0)) rfl rfl rfl
theorem s_108_125 : Go d 108 125 L (.int x :: st) h Q = Go d 108 126 L (.int (-x) :: st) h Q := go_op (E := (.ineg, 0, 0, 0)) rfl rfl
theorem s_108_126 : Go d 108 126 [o0, o1, o2, o3, o4, o5, o6] (.int x :: st) h Q = Go d 108 128 [o0, o1, o2, o3, some (.int x), o5, o6] (st) h Q := go_lo (E := (.istore 4, 0, 0, 0)) rfl rfl rfl
theorem s_108_128 : Go d 108 128 [o0, o1, o2, o3, o4, some (.int x), o6] (st) h Q = Go d 108 131 [o0, o1, o2, o3, o4, some (.int (x + nI 1)), o6] (st) h Q := (ci_i1 ▸ go_lo (E := (.iinc 5 1, 0, 0, 0)) rfl rfl rfl : _ = Go d 108 131 [o0, o1, o2, o3, o4, some (.int (x + nI 1)), o6] (st) h Q)
theorem s_108_131 : Go d 108 131 L (st) h Q = Go d 108 36 L (st) h Q := go_goto rfl
theorem s_108_134 : Go d 108 134 [o0, o1, o2, some (.int x), o4, o5, o6] (st) h Q = Go d 108 135 [o0, o1, o2, some (.int x), o4, o5, o6] (.int x :: st) h Q := go_lo (E := (.iload_n 3, 0, 0, 0)) rfl rfl rfl
theorem s_108_135 : Go d 108 135 L [.int x] h Q = Q (some (.int x)) h := go_ri rfl rfl
theorem s_109_0 : Go d 109 0 L (st) h Q = Go d 109 1 L (.int (nI 0) :: st) h Q := go_ic rfl ci_i0
theorem s_109_1 : Go d 109 1 [o0, o1, o2] (.int x :: st) h Q = Go d 109 2 [o0, some (.int x), o2] (st) h Q := go_lo (E := (.istore_n 1, 0, 0, 0)) rfl rfl rfl
theorem s_109_2 : Go d 109 2 L (st) h Q = Go d 109 3 L (.int (nI 0) :: st) h Q := go_ic rfl ci_i0
theorem s_109_3 : Go d 109 3 [o0, o1, o2] (.int x :: st) h Q = Go d 109 4 [o0, o1, some (.int x)] (st) h Q := go_lo (E := (.istore_n 2, 0, 0, 0)) rfl rfl rfl
theorem s_109_4 : Go d 109 4 [o0, o1, some (.int x)] (st) h Q = Go d 109 5 [o0, o1, some (.int x)] (.int x :: st) h Q := go_lo (E := (.iload_n 2, 0, 0, 0)) rfl rfl rfl
theorem s_109_5 : Go d 109 5 L (st) h Q = Go d 109 7 L (.int (nI 6) :: st) h Q := go_bi rfl ci_b6
theorem s_109_7 : Go d 109 7 L (.int y :: .int x :: st) h Q = (if x < y then Go d 109 10 L st h Q else Go d 109 41 L st h Q) := go_icge rfl
theorem s_109_10 : Go d 109 10 [some (.ref r), o1, o2] (st) h Q = Go d 109 11 [some (.ref r), o1, o2] (.ref r :: st) h Q := go_lo (E := (.aload_n 0, 0, 0, 0)) rfl rfl rfl
theorem s_109_11 : Go d 109 11 L (.ref 42 :: st) (HP lx xs M) Q = Go d 109 14 L (.int (M 42 2) :: st) (HP lx xs M) Q := go_gf rfl rfl (by decide) rfl
theorem s_109_14 : Go d 109 14 [o0, o1, some (.int x)] (st) h Q = Go d 109 15 [o0, o1, some (.int x)] (.int x :: st) h Q := go_lo (E := (.iload_n 2, 0, 0, 0)) rfl rfl rfl
theorem s_109_15 {a0 : Int32} {a1 : Int32} : Go (d + 1) 109 15 L [.int a1, .int a0] h Q = Go d 49 0 [some (.int a0), some (.int a1)] [] h (fun v h2 => Go (d + 1) 109 18 L (ap v []) h2 Q) := go_cx (E := (.invokestatic 27, 49, 1, 0)) (k' := 49) (as := [.int a0, .int a1]) rfl rfl rfl rfl rfl rfl rfl rfl
theorem s_109_18 : Go d 109 18 L (.int x :: st) h Q = (if x = 0 then Go d 109 35 L st h Q else Go d 109 21 L st h Q) := go_ifeq rfl
theorem s_109_21 : Go d 109 21 [some (.ref r), o1, o2] (st) h Q = Go d 109 22 [some (.ref r), o1, o2] (.ref r :: st) h Q := go_lo (E := (.aload_n 0, 0, 0, 0)) rfl rfl rfl
theorem s_109_22 : Go d 109 22 [o0, o1, some (.int x)] (st) h Q = Go d 109 23 [o0, o1, some (.int x)] (.int x :: st) h Q := go_lo (E := (.iload_n 2, 0, 0, 0)) rfl rfl rfl
theorem s_109_23 {a1 : Int32} : Go (d + 1) 109 23 L [.int a1, .ref 42] (HP lx xs M) Q = Go d 110 0 [some (.ref 42), some (.int a1), none, none, none] [] (HP lx xs M) (fun v h2 => Go (d + 1) 109 26 L (ap v []) h2 Q) := go_cx (E := (.invokevirtual 65, 110, 0, 2)) (k' := 110) (as := [.ref 42, .int a1]) rfl rfl rfl rfl rfl rfl rfl rfl
theorem s_109_26 : Go d 109 26 L (.int x :: st) h Q = (if x = 0 then Go d 109 35 L st h Q else Go d 109 29 L st h Q) := go_ifeq rfl
theorem s_109_29 : Go d 109 29 [o0, some (.int x), o2] (st) h Q = Go d 109 30 [o0, some (.int x), o2] (.int x :: st) h Q := go_lo (E := (.iload_n 1, 0, 0, 0)) rfl rfl rfl
theorem s_109_30 : Go d 109 30 L (st) h Q = Go d 109 31 L (.int (nI 1) :: st) h Q := go_ic rfl ci_i1
theorem s_109_31 : Go d 109 31 [o0, o1, some (.int x)] (st) h Q = Go d 109 32 [o0, o1, some (.int x)] (.int x :: st) h Q := go_lo (E := (.iload_n 2, 0, 0, 0)) rfl rfl rfl
theorem s_109_32 : Go d 109 32 L (.int y :: .int x :: st) h Q = Go d 109 33 L (.int (x <<< (y &&& 31)) :: st) h Q := go_op (E := (.ishl, 0, 0, 0)) rfl rfl
theorem s_109_33 : Go d 109 33 L (.int y :: .int x :: st) h Q = Go d 109 34 L (.int (x ||| y) :: st) h Q := go_op (E := (.ior, 0, 0, 0)) rfl rfl
theorem s_109_34 : Go d 109 34 [o0, o1, o2] (.int x :: st) h Q = Go d 109 35 [o0, some (.int x), o2] (st) h Q := go_lo (E := (.istore_n 1, 0, 0, 0)) rfl rfl rfl
theorem s_109_35 : Go d 109 35 [o0, o1, some (.int x)] (st) h Q = Go d 109 38 [o0, o1, some (.int (x + nI 1))] (st) h Q := (ci_i1 ▸ go_lo (E := (.iinc 2 1, 0, 0, 0)) rfl rfl rfl : _ = Go d 109 38 [o0, o1, some (.int (x + nI 1))] (st) h Q)
theorem s_109_38 : Go d 109 38 L (st) h Q = Go d 109 4 L (st) h Q := go_goto rfl
theorem s_109_41 : Go d 109 41 [o0, some (.int x), o2] (st) h Q = Go d 109 42 [o0, some (.int x), o2] (.int x :: st) h Q := go_lo (E := (.iload_n 1, 0, 0, 0)) rfl rfl rfl
theorem s_109_42 : Go d 109 42 L [.int x] h Q = Q (some (.int x)) h := go_ri rfl rfl
theorem s_110_0 : Go d 110 0 L (st) h Q = Go d 110 1 L (.int (nI 1) :: st) h Q := go_ic rfl ci_i1
theorem s_110_1 : Go d 110 1 [o0, some (.int x), o2, o3, o4] (st) h Q = Go d 110 2 [o0, some (.int x), o2, o3, o4] (.int x :: st) h Q := go_lo (E := (.iload_n 1, 0, 0, 0)) rfl rfl rfl
theorem s_110_2 : Go d 110 2 L (.int y :: .int x :: st) h Q = Go d 110 3 L (.int (x <<< (y &&& 31)) :: st) h Q := go_op (E := (.ishl, 0, 0, 0)) rfl rfl
theorem s_110_3 : Go d 110 3 [o0, o1, o2, o3, o4] (.int x :: st) h Q = Go d 110 4 [o0, o1, some (.int x), o3, o4] (st) h Q := go_lo (E := (.istore_n 2, 0, 0, 0)) rfl rfl rfl
theorem s_110_4 : Go d 110 4 L (st) h Q = Go d 110 5 L (.int (nI 1) :: st) h Q := go_ic rfl ci_i1
theorem s_110_5 : Go d 110 5 [o0, o1, o2, o3, o4] (.int x :: st) h Q = Go d 110 6 [o0, o1, o2, some (.int x), o4] (st) h Q := go_lo (E := (.istore_n 3, 0, 0, 0)) rfl rfl rfl
theorem s_110_6 : Go d 110 6 [o0, o1, o2, some (.int x), o4] (st) h Q = Go d 110 7 [o0, o1, o2, some (.int x), o4] (.int x :: st) h Q := go_lo (E := (.iload_n 3, 0, 0, 0)) rfl rfl rfl
theorem s_110_7 : Go d 110 7 L (st) h Q = Go d 110 9 L (.int (nI 6) :: st) h Q := go_bi rfl ci_b6
theorem s_110_9 : Go d 110 9 L (.int y :: .int x :: st) h Q = (if x < y then Go d 110 12 L st h Q else Go d 110 53 L st h Q) := go_icge rfl
theorem s_110_12 : Go d 110 12 L (st) h Q = Go d 110 13 L (.int (nI 0) :: st) h Q := go_ic rfl ci_i0
theorem s_110_13 : Go d 110 13 [o0, o1, o2, o3, o4] (.int x :: st) h Q = Go d 110 15 [o0, o1, o2, o3, some (.int x)] (st) h Q := go_lo (E := (.istore 4, 0, 0, 0)) rfl rfl rfl
theorem s_110_15 : Go d 110 15 [o0, o1, o2, o3, some (.int x)] (st) h Q = Go d 110 17 [o0, o1, o2, o3, some (.int x)] (.int x :: st) h Q := go_lo (E := (.iload 4, 0, 0, 0)) rfl rfl rfl
theorem s_110_17 : Go d 110 17 L (st) h Q = Go d 110 19 L (.int (nI 6) :: st) h Q := go_bi rfl ci_b6
theorem s_110_19 : Go d 110 19 L (.int y :: .int x :: st) h Q = (if x < y then Go d 110 22 L st h Q else Go d 110 47 L st h Q) := go_icge rfl
theorem s_110_22 : Go d 110 22 [some (.ref r), o1, o2, o3, o4] (st) h Q = Go d 110 23 [some (.ref r), o1, o2, o3, o4] (.ref r :: st) h Q := go_lo (E := (.aload_n 0, 0, 0, 0)) rfl rfl rfl
theorem s_110_23 : Go d 110 23 L (.ref 42 :: st) (HP lx xs M) Q = Go d 110 26 L (.ref 43 :: st) (HP lx xs M) Q := go_gf rfl rfl (by decide) rfl
theorem s_110_26 : Go d 110 26 [o0, o1, o2, o3, some (.int x)] (st) h Q = Go d 110 28 [o0, o1, o2, o3, some (.int x)] (.int x :: st) h Q := go_lo (E := (.iload 4, 0, 0, 0)) rfl rfl rfl
theorem s_110_28 : Go d 110 28 L (.int x :: .ref 43 :: st) (HP lx xs M) Q = (ex_in x 6 = true ∧ Go d 110 29 L (.int (M 43 x.toNatClampNeg) :: st) (HP lx xs M) Q) := go_al rfl rfl
theorem s_110_29 : Go d 110 29 [o0, o1, some (.int x), o3, o4] (st) h Q = Go d 110 30 [o0, o1, some (.int x), o3, o4] (.int x :: st) h Q := go_lo (E := (.iload_n 2, 0, 0, 0)) rfl rfl rfl
theorem s_110_30 : Go d 110 30 L (.int y :: .int x :: st) h Q = Go d 110 31 L (.int (x &&& y) :: st) h Q := go_op (E := (.iand, 0, 0, 0)) rfl rfl
theorem s_110_31 : Go d 110 31 L (.int x :: st) h Q = (if x = 0 then Go d 110 41 L st h Q else Go d 110 34 L st h Q) := go_ifeq rfl
theorem s_110_34 : Go d 110 34 [o0, o1, some (.int x), o3, o4] (st) h Q = Go d 110 35 [o0, o1, some (.int x), o3, o4] (.int x :: st) h Q := go_lo (E := (.iload_n 2, 0, 0, 0)) rfl rfl rfl
theorem s_110_35 : Go d 110 35 L (st) h Q = Go d 110 36 L (.int (nI 1) :: st) h Q := go_ic rfl ci_i1
theorem s_110_36 : Go d 110 36 [o0, o1, o2, o3, some (.int x)] (st) h Q = Go d 110 38 [o0, o1, o2, o3, some (.int x)] (.int x :: st) h Q := go_lo (E := (.iload 4, 0, 0, 0)) rfl rfl rfl
theorem s_110_38 : Go d 110 38 L (.int y :: .int x :: st) h Q = Go d 110 39 L (.int (x <<< (y &&& 31)) :: st) h Q := go_op (E := (.ishl, 0, 0, 0)) rfl rfl
theorem s_110_39 : Go d 110 39 L (.int y :: .int x :: st) h Q = Go d 110 40 L (.int (x ||| y) :: st) h Q := go_op (E := (.ior, 0, 0, 0)) rfl rfl
theorem s_110_40 : Go d 110 40 [o0, o1, o2, o3, o4] (.int x :: st) h Q = Go d 110 41 [o0, o1, some (.int x), o3, o4] (st) h Q := go_lo (E := (.istore_n 2, 0, 0, 0)) rfl rfl rfl
theorem s_110_41 : Go d 110 41 [o0, o1, o2, o3, some (.int x)] (st) h Q = Go d 110 44 [o0, o1, o2, o3, some (.int (x + nI 1))] (st) h Q := (ci_i1 ▸ go_lo (E := (.iinc 4 1, 0, 0, 0)) rfl rfl rfl : _ = Go d 110 44 [o0, o1, o2, o3, some (.int (x + nI 1))] (st) h Q)
theorem s_110_44 : Go d 110 44 L (st) h Q = Go d 110 15 L (st) h Q := go_goto rfl
theorem s_110_47 : Go d 110 47 [o0, o1, o2, some (.int x), o4] (st) h Q = Go d 110 50 [o0, o1, o2, some (.int (x + nI 1)), o4] (st) h Q := (ci_i1 ▸ go_lo (E := (.iinc 3 1, 0, 0, 0)) rfl rfl rfl : _ = Go d 110 50 [o0, o1, o2, some (.int (x + nI 1)), o4] (st) h Q)
theorem s_110_50 : Go d 110 50 L (st) h Q = Go d 110 6 L (st) h Q := go_goto rfl
theorem s_110_53 : Go d 110 53 [o0, o1, some (.int x), o3, o4] (st) h Q = Go d 110 54 [o0, o1, some (.int x), o3, o4] (.int x :: st) h Q := go_lo (E := (.iload_n 2, 0, 0, 0)) rfl rfl rfl
theorem s_110_54 : Go d 110 54 [some (.ref r), o1, o2, o3, o4] (st) h Q = Go d 110 55 [some (.ref r), o1, o2, o3, o4] (.ref r :: st) h Q := go_lo (E := (.aload_n 0, 0, 0, 0)) rfl rfl rfl
theorem s_110_55 : Go d 110 55 L (.ref 42 :: st) (HP lx xs M) Q = Go d 110 58 L (.int (M 42 1) :: st) (HP lx xs M) Q := go_gf rfl rfl (by decide) rfl
theorem s_110_58 : Go d 110 58 L (.int y :: .int x :: st) h Q = (if x = y then Go d 110 61 L st h Q else Go d 110 65 L st h Q) := go_icne rfl
theorem s_110_61 : Go d 110 61 L (st) h Q = Go d 110 62 L (.int (nI 1) :: st) h Q := go_ic rfl ci_i1
theorem s_110_62 : Go d 110 62 L (st) h Q = Go d 110 66 L (st) h Q := go_goto rfl
theorem s_110_65 : Go d 110 65 L (st) h Q = Go d 110 66 L (.int (nI 0) :: st) h Q := go_ic rfl ci_i0
theorem s_110_66_0 : Go d 110 66 L [.int (nI 0)] h Q = Q (some (.int (nI 0))) h := go_rz rfl rfl (by decide)
theorem s_110_66_1 : Go d 110 66 L [.int (nI 1)] h Q = Q (some (.int (nI 1))) h := go_rz rfl rfl (by decide)
theorem s_111_0 : Go d 111 0 [some (.ref r), o1, o2, o3] (st) h Q = Go d 111 1 [some (.ref r), o1, o2, o3] (.ref r :: st) h Q := go_lo (E := (.aload_n 0, 0, 0, 0)) rfl rfl rfl
theorem s_111_1  : Go (d + 1) 111 1 L [.ref 42] (HP lx xs M) Q = Go d 109 0 [some (.ref 42), none, none] [] (HP lx xs M) (fun v h2 => Go (d + 1) 111 4 L (ap v []) h2 Q) := go_cx (E := (.invokevirtual 69, 109, 0, 2)) (k' := 109) (as := [.ref 42]) rfl rfl rfl rfl rfl rfl rfl rfl
theorem s_111_4 : Go d 111 4 L (.int x :: st) h Q = (if x = 0 then Go d 111 7 L st h Q else Go d 111 10 L st h Q) := go_ifne rfl
theorem s_111_7 : Go d 111 7 L (st) h Q = Go d 111 9 L (.int (-4) :: st) h Q := go_bi rfl ci_bm4
theorem s_111_9 : Go d 111 9 L [.int x] h Q = Q (some (.int x)) h := go_ri rfl rfl
theorem s_111_10 : Go d 111 10 L (st) h Q = Go d 111 12 L (.int (-4) :: st) h Q := go_bi rfl ci_bm4
theorem s_111_12 : Go d 111 12 [o0, o1, o2, o3] (.int x :: st) h Q = Go d 111 13 [o0, o1, some (.int x), o3] (st) h Q := go_lo (E := (.istore_n 2, 0, 0, 0)) rfl rfl rfl
theorem s_111_13 : Go d 111 13 L (st) h Q = Go d 111 14 L (.int (nI 0) :: st) h Q := go_ic rfl ci_i0
theorem s_111_14 : Go d 111 14 [o0, o1, o2, o3] (.int x :: st) h Q = Go d 111 15 [o0, o1, o2, some (.int x)] (st) h Q := go_lo (E := (.istore_n 3, 0, 0, 0)) rfl rfl rfl
theorem s_111_15 : Go d 111 15 [o0, o1, o2, some (.int x)] (st) h Q = Go d 111 16 [o0, o1, o2, some (.int x)] (.int x :: st) h Q := go_lo (E := (.iload_n 3, 0, 0, 0)) rfl rfl rfl
theorem s_111_16 : Go d 111 16 [o0, some (.int x), o2, o3] (st) h Q = Go d 111 17 [o0, some (.int x), o2, o3] (.int x :: st) h Q := go_lo (E := (.iload_n 1, 0, 0, 0)) rfl rfl rfl
theorem s_111_17 : Go d 111 17 L (.int y :: .int x :: st) h Q = (if y < x then Go d 111 43 L st h Q else Go d 111 20 L st h Q) := go_icgt rfl
theorem s_111_20 : Go d 111 20 [some (.ref r), o1, o2, o3] (st) h Q = Go d 111 21 [some (.ref r), o1, o2, o3] (.ref r :: st) h Q := go_lo (E := (.aload_n 0, 0, 0, 0)) rfl rfl rfl
theorem s_111_21 : Go d 111 21 L (.ref 42 :: st) (HP lx xs M) Q = Go d 111 24 L (.int (M 42 1) :: st) (HP lx xs M) Q := go_gf rfl rfl (by decide) rfl
theorem s_111_24 : Go d 111 24 [o0, o1, o2, some (.int x)] (st) h Q = Go d 111 25 [o0, o1, o2, some (.int x)] (.int x :: st) h Q := go_lo (E := (.iload_n 3, 0, 0, 0)) rfl rfl rfl
theorem s_111_25 {a0 : Int32} {a1 : Int32} : Go (d + 1) 111 25 L [.int a1, .int a0] h Q = Go d 49 0 [some (.int a0), some (.int a1)] [] h (fun v h2 => Go (d + 1) 111 28 L (ap v []) h2 Q) := go_cx (E := (.invokestatic 27, 49, 1, 0)) (k' := 49) (as := [.int a0, .int a1]) rfl rfl rfl rfl rfl rfl rfl rfl
theorem s_111_28 : Go d 111 28 L (.int x :: st) h Q = (if x = 0 then Go d 111 37 L st h Q else Go d 111 31 L st h Q) := go_ifeq rfl
theorem s_111_31 : Go d 111 31 [some (.ref r), o1, o2, o3] (st) h Q = Go d 111 32 [some (.ref r), o1, o2, o3] (.ref r :: st) h Q := go_lo (E := (.aload_n 0, 0, 0, 0)) rfl rfl rfl
theorem s_111_32 : Go d 111 32 [o0, o1, o2, some (.int x)] (st) h Q = Go d 111 33 [o0, o1, o2, some (.int x)] (.int x :: st) h Q := go_lo (E := (.iload_n 3, 0, 0, 0)) rfl rfl rfl
theorem s_111_33 {a1 : Int32} : Go (d + 1) 111 33 L [.int a1, .ref 42] (HP lx xs M) Q = Go d 112 0 [some (.ref 42), some (.int a1), none, none, none] [] (HP lx xs M) (fun v h2 => Go (d + 1) 111 36 L (ap v []) h2 Q) := go_cx (E := (.invokevirtual 73, 112, 0, 2)) (k' := 112) (as := [.ref 42, .int a1]) rfl rfl rfl rfl rfl rfl rfl rfl
theorem s_111_36 : Go d 111 36 [o0, o1, o2, o3] (.int x :: st) h Q = Go d 111 37 [o0, o1, some (.int x), o3] (st) h Q := go_lo (E := (.istore_n 2, 0, 0, 0)) rfl rfl rfl
theorem s_111_37 : Go d 111 37 [o0, o1, o2, some (.int x)] (st) h Q = Go d 111 40 [o0, o1, o2, some (.int (x + nI 1))] (st) h Q := (ci_i1 ▸ go_lo (E := (.iinc 3 1, 0, 0, 0)) rfl rfl rfl : _ = Go d 111 40 [o0, o1, o2, some (.int (x + nI 1))] (st) h Q)
theorem s_111_40 : Go d 111 40 L (st) h Q = Go d 111 15 L (st) h Q := go_goto rfl
theorem s_111_43 : Go d 111 43 [o0, o1, some (.int x), o3] (st) h Q = Go d 111 44 [o0, o1, some (.int x), o3] (.int x :: st) h Q := go_lo (E := (.iload_n 2, 0, 0, 0)) rfl rfl rfl
theorem s_111_44 : Go d 111 44 L [.int x] h Q = Q (some (.int x)) h := go_ri rfl rfl
theorem s_112_0 : Go d 112 0 [some (.ref r), o1, o2, o3, o4] (st) h Q = Go d 112 1 [some (.ref r), o1, o2, o3, o4] (.ref r :: st) h Q := go_lo (E := (.aload_n 0, 0, 0, 0)) rfl rfl rfl
theorem s_112_1 : Go d 112 1 L (.ref 42 :: st) (HP lx xs M) Q = Go d 112 4 L (.ref 43 :: st) (HP lx xs M) Q := go_gf rfl rfl (by decide) rfl
theorem s_112_4 : Go d 112 4 [o0, some (.int x), o2, o3, o4] (st) h Q = Go d 112 5 [o0, some (.int x), o2, o3, o4] (.int x :: st) h Q := go_lo (E := (.iload_n 1, 0, 0, 0)) rfl rfl rfl
theorem s_112_5 : Go d 112 5 L (.int x :: .ref 43 :: st) (HP lx xs M) Q = (ex_in x 6 = true ∧ Go d 112 6 L (.int (M 43 x.toNatClampNeg) :: st) (HP lx xs M) Q) := go_al rfl rfl
theorem s_112_6 : Go d 112 6 [o0, o1, o2, o3, o4] (.int x :: st) h Q = Go d 112 7 [o0, o1, some (.int x), o3, o4] (st) h Q := go_lo (E := (.istore_n 2, 0, 0, 0)) rfl rfl rfl
theorem s_112_7 : Go d 112 7 [some (.ref r), o1, o2, o3, o4] (st) h Q = Go d 112 8 [some (.ref r), o1, o2, o3, o4] (.ref r :: st) h Q := go_lo (E := (.aload_n 0, 0, 0, 0)) rfl rfl rfl
theorem s_112_8 : Go d 112 8 L (.ref 42 :: st) (HP lx xs M) Q = Go d 112 11 L (.int (M 42 2) :: st) (HP lx xs M) Q := go_gf rfl rfl (by decide) rfl
theorem s_112_11 : Go d 112 11 [o0, o1, o2, o3, o4] (.int x :: st) h Q = Go d 112 12 [o0, o1, o2, some (.int x), o4] (st) h Q := go_lo (E := (.istore_n 3, 0, 0, 0)) rfl rfl rfl
theorem s_112_12 : Go d 112 12 [some (.ref r), o1, o2, o3, o4] (st) h Q = Go d 112 13 [some (.ref r), o1, o2, o3, o4] (.ref r :: st) h Q := go_lo (E := (.aload_n 0, 0, 0, 0)) rfl rfl rfl
theorem s_112_13 : Go d 112 13 L (.ref r :: st) h Q = Go d 112 14 L (.ref r :: .ref r :: st) h Q := go_op (E := (.dup, 0, 0, 0)) rfl rfl
theorem s_112_14 : Go d 112 14 L (.ref 42 :: st) (HP lx xs M) Q = Go d 112 17 L (.int (M 42 2) :: st) (HP lx xs M) Q := go_gf rfl rfl (by decide) rfl
theorem s_112_17 : Go d 112 17 L (st) h Q = Go d 112 18 L (.int (nI 1) :: st) h Q := go_ic rfl ci_i1
theorem s_112_18 : Go d 112 18 [o0, some (.int x), o2, o3, o4] (st) h Q = Go d 112 19 [o0, some (.int x), o2, o3, o4] (.int x :: st) h Q := go_lo (E := (.iload_n 1, 0, 0, 0)) rfl rfl rfl
theorem s_112_19 : Go d 112 19 L (.int y :: .int x :: st) h Q = Go d 112 20 L (.int (x <<< (y &&& 31)) :: st) h Q := go_op (E := (.ishl, 0, 0, 0)) rfl rfl
theorem s_112_20 : Go d 112 20 L (st) h Q = Go d 112 21 L (.int (-1) :: st) h Q := go_ic rfl ci_im1
theorem s_112_21 : Go d 112 21 L (.int y :: .int x :: st) h Q = Go d 112 22 L (.int (x ^^^ y) :: st) h Q := go_op (E := (.ixor, 0, 0, 0)) rfl rfl
theorem s_112_22 : Go d 112 22 L (.int y :: .int x :: st) h Q = Go d 112 23 L (.int (x &&& y) :: st) h Q := go_op (E := (.iand, 0, 0, 0)) rfl rfl
theorem s_112_23 : Go d 112 23 L (.int x :: .ref 42 :: st) (HP lx xs M) Q = Go d 112 26 L (st) (HP lx xs (up M 42 2 x)) Q := go_pf rfl rfl (by decide) (Nat.le_of_ble_eq_true rfl) rfl hf_42_2
theorem s_112_26 : Go d 112 26 L (st) h Q = Go d 112 27 L (.int (nI 0) :: st) h Q := go_ic rfl ci_i0
theorem s_112_27 : Go d 112 27 [o0, o1, o2, o3, o4] (.int x :: st) h Q = Go d 112 29 [o0, o1, o2, o3, some (.int x)] (st) h Q := go_lo (E := (.istore 4, 0, 0, 0)) rfl rfl rfl
theorem s_112_29 : Go d 112 29 [o0, o1, o2, o3, some (.int x)] (st) h Q = Go d 112 31 [o0, o1, o2, o3, some (.int x)] (.int x :: st) h Q := go_lo (E := (.iload 4, 0, 0, 0)) rfl rfl rfl
theorem s_112_31 : Go d 112 31 L (st) h Q = Go d 112 33 L (.int (nI 6) :: st) h Q := go_bi rfl ci_b6
theorem s_112_33 : Go d 112 33 L (.int y :: .int x :: st) h Q = (if x < y then Go d 112 36 L st h Q else Go d 112 74 L st h Q) := go_icge rfl
theorem s_112_36 : Go d 112 36 [o0, o1, some (.int x), o3, o4] (st) h Q = Go d 112 37 [o0, o1, some (.int x), o3, o4] (.int x :: st) h Q := go_lo (E := (.iload_n 2, 0, 0, 0)) rfl rfl rfl
theorem s_112_37 : Go d 112 37 [o0, o1, o2, o3, some (.int x)] (st) h Q = Go d 112 39 [o0, o1, o2, o3, some (.int x)] (.int x :: st) h Q := go_lo (E := (.iload 4, 0, 0, 0)) rfl rfl rfl
theorem s_112_39 {a0 : Int32} {a1 : Int32} : Go (d + 1) 112 39 L [.int a1, .int a0] h Q = Go d 49 0 [some (.int a0), some (.int a1)] [] h (fun v h2 => Go (d + 1) 112 42 L (ap v []) h2 Q) := go_cx (E := (.invokestatic 27, 49, 1, 0)) (k' := 49) (as := [.int a0, .int a1]) rfl rfl rfl rfl rfl rfl rfl rfl
theorem s_112_42 : Go d 112 42 L (.int x :: st) h Q = (if x = 0 then Go d 112 45 L st h Q else Go d 112 48 L st h Q) := go_ifne rfl
theorem s_112_45 : Go d 112 45 L (st) h Q = Go d 112 68 L (st) h Q := go_goto rfl
theorem s_112_48 : Go d 112 48 [some (.ref r), o1, o2, o3, o4] (st) h Q = Go d 112 49 [some (.ref r), o1, o2, o3, o4] (.ref r :: st) h Q := go_lo (E := (.aload_n 0, 0, 0, 0)) rfl rfl rfl
theorem s_112_49 : Go d 112 49 L (.ref 42 :: st) (HP lx xs M) Q = Go d 112 52 L (.ref 43 :: st) (HP lx xs M) Q := go_gf rfl rfl (by decide) rfl
theorem s_112_52 : Go d 112 52 [o0, some (.int x), o2, o3, o4] (st) h Q = Go d 112 53 [o0, some (.int x), o2, o3, o4] (.int x :: st) h Q := go_lo (E := (.iload_n 1, 0, 0, 0)) rfl rfl rfl
theorem s_112_53 : Go d 112 53 L (st) h Q = Go d 112 54 L (.int (nI 1) :: st) h Q := go_ic rfl ci_i1
theorem s_112_54 : Go d 112 54 [o0, o1, o2, o3, some (.int x)] (st) h Q = Go d 112 56 [o0, o1, o2, o3, some (.int x)] (.int x :: st) h Q := go_lo (E := (.iload 4, 0, 0, 0)) rfl rfl rfl
theorem s_112_56 : Go d 112 56 L (.int y :: .int x :: st) h Q = Go d 112 57 L (.int (x <<< (y &&& 31)) :: st) h Q := go_op (E := (.ishl, 0, 0, 0)) rfl rfl
theorem s_112_57 : Go d 112 57 L (.int y :: .int x :: .ref 43 :: st) (HP lx xs M) Q = (ex_in x 6 = true ∧ Go d 112 58 L (st) (HP lx xs (up M 43 x.toNatClampNeg y)) Q) := go_as rfl rfl (by decide) hs_43
theorem s_112_58 : Go d 112 58 [some (.ref r), o1, o2, o3, o4] (st) h Q = Go d 112 59 [some (.ref r), o1, o2, o3, o4] (.ref r :: st) h Q := go_lo (E := (.aload_n 0, 0, 0, 0)) rfl rfl rfl
theorem s_112_59  : Go (d + 1) 112 59 L [.ref 42] (HP lx xs M) Q = Go d 109 0 [some (.ref 42), none, none] [] (HP lx xs M) (fun v h2 => Go (d + 1) 112 62 L (ap v []) h2 Q) := go_cx (E := (.invokevirtual 69, 109, 0, 2)) (k' := 109) (as := [.ref 42]) rfl rfl rfl rfl rfl rfl rfl rfl
theorem s_112_62 : Go d 112 62 L (.int x :: st) h Q = (if x = 0 then Go d 112 68 L st h Q else Go d 112 65 L st h Q) := go_ifeq rfl
theorem s_112_65 : Go d 112 65 [o0, o1, o2, o3, some (.int x)] (st) h Q = Go d 112 67 [o0, o1, o2, o3, some (.int x)] (.int x :: st) h Q := go_lo (E := (.iload 4, 0, 0, 0)) rfl rfl rfl
theorem s_112_67 : Go d 112 67 L [.int x] h Q = Q (some (.int x)) h := go_ri rfl rfl
theorem s_112_68 : Go d 112 68 [o0, o1, o2, o3, some (.int x)] (st) h Q = Go d 112 71 [o0, o1, o2, o3, some (.int (x + nI 1))] (st) h Q := (ci_i1 ▸ go_lo (E := (.iinc 4 1, 0, 0, 0)) rfl rfl rfl : _ = Go d 112 71 [o0, o1, o2, o3, some (.int (x + nI 1))] (st) h Q)
theorem s_112_71 : Go d 112 71 L (st) h Q = Go d 112 29 L (st) h Q := go_goto rfl
theorem s_112_74 : Go d 112 74 [some (.ref r), o1, o2, o3, o4] (st) h Q = Go d 112 75 [some (.ref r), o1, o2, o3, o4] (.ref r :: st) h Q := go_lo (E := (.aload_n 0, 0, 0, 0)) rfl rfl rfl
theorem s_112_75 : Go d 112 75 L (.ref 42 :: st) (HP lx xs M) Q = Go d 112 78 L (.ref 43 :: st) (HP lx xs M) Q := go_gf rfl rfl (by decide) rfl
theorem s_112_78 : Go d 112 78 [o0, some (.int x), o2, o3, o4] (st) h Q = Go d 112 79 [o0, some (.int x), o2, o3, o4] (.int x :: st) h Q := go_lo (E := (.iload_n 1, 0, 0, 0)) rfl rfl rfl
theorem s_112_79 : Go d 112 79 L (st) h Q = Go d 112 80 L (.int (nI 0) :: st) h Q := go_ic rfl ci_i0
theorem s_112_80 : Go d 112 80 L (.int y :: .int x :: .ref 43 :: st) (HP lx xs M) Q = (ex_in x 6 = true ∧ Go d 112 81 L (st) (HP lx xs (up M 43 x.toNatClampNeg y)) Q) := go_as rfl rfl (by decide) hs_43
theorem s_112_81 : Go d 112 81 [some (.ref r), o1, o2, o3, o4] (st) h Q = Go d 112 82 [some (.ref r), o1, o2, o3, o4] (.ref r :: st) h Q := go_lo (E := (.aload_n 0, 0, 0, 0)) rfl rfl rfl
theorem s_112_82 : Go d 112 82 [o0, o1, o2, some (.int x), o4] (st) h Q = Go d 112 83 [o0, o1, o2, some (.int x), o4] (.int x :: st) h Q := go_lo (E := (.iload_n 3, 0, 0, 0)) rfl rfl rfl
theorem s_112_83 : Go d 112 83 L (st) h Q = Go d 112 84 L (.int (nI 1) :: st) h Q := go_ic rfl ci_i1
theorem s_112_84 : Go d 112 84 [o0, some (.int x), o2, o3, o4] (st) h Q = Go d 112 85 [o0, some (.int x), o2, o3, o4] (.int x :: st) h Q := go_lo (E := (.iload_n 1, 0, 0, 0)) rfl rfl rfl
theorem s_112_85 : Go d 112 85 L (.int y :: .int x :: st) h Q = Go d 112 86 L (.int (x <<< (y &&& 31)) :: st) h Q := go_op (E := (.ishl, 0, 0, 0)) rfl rfl
theorem s_112_86 : Go d 112 86 L (.int y :: .int x :: st) h Q = Go d 112 87 L (.int (x &&& y) :: st) h Q := go_op (E := (.iand, 0, 0, 0)) rfl rfl
theorem s_112_87 : Go d 112 87 L (.int x :: .ref 42 :: st) (HP lx xs M) Q = Go d 112 90 L (st) (HP lx xs (up M 42 2 x)) Q := go_pf rfl rfl (by decide) (Nat.le_of_ble_eq_true rfl) rfl hf_42_2
theorem s_112_90 : Go d 112 90 L (st) h Q = Go d 112 92 L (.int (nI 9) :: st) h Q := go_bi rfl ci_b9
theorem s_112_92 : Go d 112 92 L [.int x] h Q = Q (some (.int x)) h := go_ri rfl rfl
end SL
