section SL
variable {d : Nat} {L : ex_L} {st : List Value} {h : ex_H} {Q : Option Value → ex_H → Prop} {lx : Nat} {xs : Nat → Int32} {M : Nat → Nat → Int32} {x y : Int32} {u w : Int64} {r r2 : Nat} {o0 o1 o2 o3 o4 o5 o6 o7 o8 o9 o10 o11 : Option Value}
theorem s_114_0 : Go d 114 0 [some (.long u), o1, o2, o3, o4, o5] (st) h Q = Go d 114 1 [some (.long u), o1, o2, o3, o4, o5] (.long u :: st) h Q := go_lo (E := (.lload_n 0, 0, 0, 0)) rfl rfl rfl
theorem s_114_1 : Go d 114 1 [o0, o1, some (.long u), o3, o4, o5] (st) h Q = Go d 114 2 [o0, o1, some (.long u), o3, o4, o5] (.long u :: st) h Q := go_lo (E := (.lload_n 2, 0, 0, 0)) rfl rfl rfl
theorem s_114_2 : Go d 114 2 L (.long w :: .long u :: st) h Q = Go d 114 3 L (.int (lg_cmp u w) :: st) h Q := go_op (E := (.lcmp, 0, 0, 0)) rfl rfl
theorem s_114_3 : Go d 114 3 L (.int x :: st) h Q = (if x < 0 then Go d 114 17 L st h Q else Go d 114 6 L st h Q) := go_iflt rfl
theorem s_114_6 : Go d 114 6 [some (.long u), o1, o2, o3, o4, o5] (st) h Q = Go d 114 7 [some (.long u), o1, o2, o3, o4, o5] (.long u :: st) h Q := go_lo (E := (.lload_n 0, 0, 0, 0)) rfl rfl rfl
theorem s_114_7 : Go d 114 7 [o0, o1, o2, o3, some (.long u), o5] (st) h Q = Go d 114 9 [o0, o1, o2, o3, some (.long u), o5] (.long u :: st) h Q := go_lo (E := (.lload 4, 0, 0, 0)) rfl rfl rfl
theorem s_114_9 : Go d 114 9 L (.long w :: .long u :: st) h Q = Go d 114 10 L (.int (lg_cmp u w) :: st) h Q := go_op (E := (.lcmp, 0, 0, 0)) rfl rfl
theorem s_114_10 : Go d 114 10 L (.int x :: st) h Q = (if 0 < x then Go d 114 17 L st h Q else Go d 114 13 L st h Q) := go_ifgt rfl
theorem s_114_13 : Go d 114 13 L (st) h Q = Go d 114 14 L (.int (nI 1) :: st) h Q := go_ic rfl ci_i1
theorem s_114_14 : Go d 114 14 L (st) h Q = Go d 114 18 L (st) h Q := go_goto rfl
theorem s_114_17 : Go d 114 17 L (st) h Q = Go d 114 18 L (.int (nI 0) :: st) h Q := go_ic rfl ci_i0
theorem s_114_18_0 : Go d 114 18 L [.int (nI 0)] h Q = Q (some (.int (nI 0))) h := go_rz rfl rfl (by decide)
theorem s_114_18_1 : Go d 114 18 L [.int (nI 1)] h Q = Q (some (.int (nI 1))) h := go_rz rfl rfl (by decide)
theorem s_115_0 : Go d 115 0 [some (.int x), o1] (st) h Q = Go d 115 1 [some (.int x), o1] (.int x :: st) h Q := go_lo (E := (.iload_n 0, 0, 0, 0)) rfl rfl rfl
theorem s_115_1 : Go d 115 1 [o0, some (.int x)] (st) h Q = Go d 115 2 [o0, some (.int x)] (.int x :: st) h Q := go_lo (E := (.iload_n 1, 0, 0, 0)) rfl rfl rfl
theorem s_115_2 : Go d 115 2 L (.int y :: .int x :: st) h Q = Go d 115 3 L (.int (x >>> (y &&& 31)) :: st) h Q := go_op (E := (.ishr, 0, 0, 0)) rfl rfl
theorem s_115_3 : Go d 115 3 L (st) h Q = Go d 115 4 L (.int (nI 1) :: st) h Q := go_ic rfl ci_i1
theorem s_115_4 : Go d 115 4 L (.int y :: .int x :: st) h Q = Go d 115 5 L (.int (x &&& y) :: st) h Q := go_op (E := (.iand, 0, 0, 0)) rfl rfl
theorem s_115_5 : Go d 115 5 L (st) h Q = Go d 115 6 L (.int (nI 1) :: st) h Q := go_ic rfl ci_i1
theorem s_115_6 : Go d 115 6 L (.int y :: .int x :: st) h Q = (if x = y then Go d 115 9 L st h Q else Go d 115 13 L st h Q) := go_icne rfl
theorem s_115_9 : Go d 115 9 L (st) h Q = Go d 115 10 L (.int (nI 1) :: st) h Q := go_ic rfl ci_i1
theorem s_115_10 : Go d 115 10 L (st) h Q = Go d 115 14 L (st) h Q := go_goto rfl
theorem s_115_13 : Go d 115 13 L (st) h Q = Go d 115 14 L (.int (nI 0) :: st) h Q := go_ic rfl ci_i0
theorem s_115_14_0 : Go d 115 14 L [.int (nI 0)] h Q = Q (some (.int (nI 0))) h := go_rz rfl rfl (by decide)
theorem s_115_14_1 : Go d 115 14 L [.int (nI 1)] h Q = Q (some (.int (nI 1))) h := go_rz rfl rfl (by decide)
theorem s_116_0 : Go d 116 0 [o0, some (.int x)] (st) h Q = Go d 116 1 [o0, some (.int x)] (.int x :: st) h Q := go_lo (E := (.iload_n 1, 0, 0, 0)) rfl rfl rfl
theorem s_116_1 : Go d 116 1 L (.int x :: st) h Q = Go d 116 2 L (.long (x.toInt64) :: st) h Q := go_op (E := (.i2l, 0, 0, 0)) rfl rfl
theorem s_116_2 : Go d 116 2 L (st) h Q = Go d 116 3 L (.long (lN 0) :: st) h Q := go_op (E := (.lconst 0, 0, 0, 0)) rfl rfl
theorem s_116_3 : Go d 116 3 [some (.ref r), o1] (st) h Q = Go d 116 4 [some (.ref r), o1] (.ref r :: st) h Q := go_lo (E := (.aload_n 0, 0, 0, 0)) rfl rfl rfl
theorem s_116_4 : Go d 116 4 L (.ref 53 :: st) (HP lx xs M) Q = Go d 116 7 L (.int (M 53 4) :: st) (HP lx xs M) Q := go_gf rfl rfl (by decide) rfl
theorem s_116_7 : Go d 116 7 L (st) h Q = Go d 116 8 L (.int (nI 1) :: st) h Q := go_ic rfl ci_i1
theorem s_116_8 : Go d 116 8 L (.int y :: .int x :: st) h Q = Go d 116 9 L (.int (x - y) :: st) h Q := go_op (E := (.isub, 0, 0, 0)) rfl rfl
theorem s_116_9 : Go d 116 9 L (.int x :: st) h Q = Go d 116 10 L (.long (x.toInt64) :: st) h Q := go_op (E := (.i2l, 0, 0, 0)) rfl rfl
theorem s_116_10 {al0 : Int64} {al1 : Int64} {al2 : Int64} : Go (d + 1) 116 10 L [.long al2, .long al1, .long al0] h Q = Go d 114 0 [some (.long al0), none, some (.long al1), none, some (.long al2), none] [] h (fun v h2 => Go (d + 1) 116 13 L (ap v []) h2 Q) := go_cx (E := (.invokestatic 84, 114, 0, 0)) (k' := 114) (as := [.long al0, .long al1, .long al2]) rfl rfl rfl rfl rfl rfl rfl rfl
theorem s_116_13_0 : Go d 116 13 L [.int (nI 0)] h Q = Q (some (.int (nI 0))) h := go_rz rfl rfl (by decide)
theorem s_116_13_1 : Go d 116 13 L [.int (nI 1)] h Q = Q (some (.int (nI 1))) h := go_rz rfl rfl (by decide)
theorem s_117_0 : Go d 117 0 [some (.int x)] (st) h Q = Go d 117 1 [some (.int x)] (.int x :: st) h Q := go_lo (E := (.iload_n 0, 0, 0, 0)) rfl rfl rfl
theorem s_117_1 : Go d 117 1 L (.int x :: st) h Q = Go d 117 2 L (.long (x.toInt64) :: st) h Q := go_op (E := (.i2l, 0, 0, 0)) rfl rfl
theorem s_117_2 : Go d 117 2 L (st) h Q = Go d 117 3 L (.long (lN 0) :: st) h Q := go_op (E := (.lconst 0, 0, 0, 0)) rfl rfl
theorem s_117_3 : Go d 117 3 L (st) h Q = Go d 117 6 L (.long (lN 3) :: st) h Q := go_ld2 rfl ci_l3
theorem s_117_6 {al0 : Int64} {al1 : Int64} {al2 : Int64} : Go (d + 1) 117 6 L [.long al2, .long al1, .long al0] h Q = Go d 114 0 [some (.long al0), none, some (.long al1), none, some (.long al2), none] [] h (fun v h2 => Go (d + 1) 117 9 L (ap v []) h2 Q) := go_cx (E := (.invokestatic 84, 114, 0, 0)) (k' := 114) (as := [.long al0, .long al1, .long al2]) rfl rfl rfl rfl rfl rfl rfl rfl
theorem s_117_9_0 : Go d 117 9 L [.int (nI 0)] h Q = Q (some (.int (nI 0))) h := go_rz rfl rfl (by decide)
theorem s_117_9_1 : Go d 117 9 L [.int (nI 1)] h Q = Q (some (.int (nI 1))) h := go_rz rfl rfl (by decide)
theorem s_118_0 : Go d 118 0 [some (.ref r), o1, o2] (st) h Q = Go d 118 1 [some (.ref r), o1, o2] (.ref r :: st) h Q := go_lo (E := (.aload_n 0, 0, 0, 0)) rfl rfl rfl
theorem s_118_1 : Go d 118 1 [o0, some (.int x), o2] (st) h Q = Go d 118 2 [o0, some (.int x), o2] (.int x :: st) h Q := go_lo (E := (.iload_n 1, 0, 0, 0)) rfl rfl rfl
theorem s_118_2 {a1 : Int32} : Go (d + 1) 118 2 L [.int a1, .ref 53] (HP lx xs M) Q = Go d 116 0 [some (.ref 53), some (.int a1)] [] (HP lx xs M) (fun v h2 => Go (d + 1) 118 5 L (ap v []) h2 Q) := go_cx (E := (.invokevirtual 90, 116, 0, 7)) (k' := 116) (as := [.ref 53, .int a1]) rfl rfl rfl rfl rfl rfl rfl rfl
theorem s_118_5 : Go d 118 5 L (.int x :: st) h Q = (if x = 0 then Go d 118 25 L st h Q else Go d 118 8 L st h Q) := go_ifeq rfl
theorem s_118_8 : Go d 118 8 [some (.ref r), o1, o2] (st) h Q = Go d 118 9 [some (.ref r), o1, o2] (.ref r :: st) h Q := go_lo (E := (.aload_n 0, 0, 0, 0)) rfl rfl rfl
theorem s_118_9 : Go d 118 9 [o0, o1, some (.int x)] (st) h Q = Go d 118 10 [o0, o1, some (.int x)] (.int x :: st) h Q := go_lo (E := (.iload_n 2, 0, 0, 0)) rfl rfl rfl
theorem s_118_10 {a1 : Int32} : Go (d + 1) 118 10 L [.int a1, .ref 53] (HP lx xs M) Q = Go d 116 0 [some (.ref 53), some (.int a1)] [] (HP lx xs M) (fun v h2 => Go (d + 1) 118 13 L (ap v []) h2 Q) := go_cx (E := (.invokevirtual 90, 116, 0, 7)) (k' := 116) (as := [.ref 53, .int a1]) rfl rfl rfl rfl rfl rfl rfl rfl
theorem s_118_13 : Go d 118 13 L (.int x :: st) h Q = (if x = 0 then Go d 118 25 L st h Q else Go d 118 16 L st h Q) := go_ifeq rfl
theorem s_118_16 : Go d 118 16 [o0, some (.int x), o2] (st) h Q = Go d 118 17 [o0, some (.int x), o2] (.int x :: st) h Q := go_lo (E := (.iload_n 1, 0, 0, 0)) rfl rfl rfl
theorem s_118_17 : Go d 118 17 [o0, o1, some (.int x)] (st) h Q = Go d 118 18 [o0, o1, some (.int x)] (.int x :: st) h Q := go_lo (E := (.iload_n 2, 0, 0, 0)) rfl rfl rfl
theorem s_118_18 : Go d 118 18 L (.int y :: .int x :: st) h Q = (if x = y then Go d 118 25 L st h Q else Go d 118 21 L st h Q) := go_iceq rfl
theorem s_118_21 : Go d 118 21 L (st) h Q = Go d 118 22 L (.int (nI 1) :: st) h Q := go_ic rfl ci_i1
theorem s_118_22 : Go d 118 22 L (st) h Q = Go d 118 26 L (st) h Q := go_goto rfl
theorem s_118_25 : Go d 118 25 L (st) h Q = Go d 118 26 L (.int (nI 0) :: st) h Q := go_ic rfl ci_i0
theorem s_118_26_0 : Go d 118 26 L [.int (nI 0)] h Q = Q (some (.int (nI 0))) h := go_rz rfl rfl (by decide)
theorem s_118_26_1 : Go d 118 26 L [.int (nI 1)] h Q = Q (some (.int (nI 1))) h := go_rz rfl rfl (by decide)
theorem s_119_0 : Go d 119 0 [some (.ref r), o1, o2] (st) h Q = Go d 119 1 [some (.ref r), o1, o2] (.ref r :: st) h Q := go_lo (E := (.aload_n 0, 0, 0, 0)) rfl rfl rfl
theorem s_119_1 : Go d 119 1 L (.ref 53 :: st) (HP lx xs M) Q = Go d 119 4 L (.ref 54 :: st) (HP lx xs M) Q := go_gf rfl rfl (by decide) rfl
theorem s_119_4 : Go d 119 4 [some (.ref r), o1, o2] (st) h Q = Go d 119 5 [some (.ref r), o1, o2] (.ref r :: st) h Q := go_lo (E := (.aload_n 0, 0, 0, 0)) rfl rfl rfl
theorem s_119_5 : Go d 119 5 L (.ref 53 :: st) (HP lx xs M) Q = Go d 119 8 L (.int (M 53 4) :: st) (HP lx xs M) Q := go_gf rfl rfl (by decide) rfl
theorem s_119_8 : Go d 119 8 [o0, some (.int x), o2] (st) h Q = Go d 119 9 [o0, some (.int x), o2] (.int x :: st) h Q := go_lo (E := (.iload_n 1, 0, 0, 0)) rfl rfl rfl
theorem s_119_9 : Go d 119 9 L (.int y :: .int x :: .ref 54 :: st) (HP lx xs M) Q = (ex_in x 6 = true ∧ Go d 119 10 L (st) (HP lx xs (up M 54 x.toNatClampNeg y)) Q) := go_as rfl rfl (by decide) hs_54
theorem s_119_10 : Go d 119 10 [some (.ref r), o1, o2] (st) h Q = Go d 119 11 [some (.ref r), o1, o2] (.ref r :: st) h Q := go_lo (E := (.aload_n 0, 0, 0, 0)) rfl rfl rfl
theorem s_119_11 : Go d 119 11 L (.ref 53 :: st) (HP lx xs M) Q = Go d 119 14 L (.ref 55 :: st) (HP lx xs M) Q := go_gf rfl rfl (by decide) rfl
theorem s_119_14 : Go d 119 14 [some (.ref r), o1, o2] (st) h Q = Go d 119 15 [some (.ref r), o1, o2] (.ref r :: st) h Q := go_lo (E := (.aload_n 0, 0, 0, 0)) rfl rfl rfl
theorem s_119_15 : Go d 119 15 L (.ref 53 :: st) (HP lx xs M) Q = Go d 119 18 L (.int (M 53 4) :: st) (HP lx xs M) Q := go_gf rfl rfl (by decide) rfl
theorem s_119_18 : Go d 119 18 L (st) h Q = Go d 119 19 L (.int (nI 0) :: st) h Q := go_ic rfl ci_i0
theorem s_119_19 : Go d 119 19 L (.int y :: .int x :: .ref 55 :: st) (HP lx xs M) Q = (ex_in x 6 = true ∧ Go d 119 20 L (st) (HP lx xs (up M 55 x.toNatClampNeg y)) Q) := go_as rfl rfl (by decide) hs_55
theorem s_119_20 : Go d 119 20 L (st) h Q = Go d 119 21 L (.int (nI 0) :: st) h Q := go_ic rfl ci_i0
theorem s_119_21 : Go d 119 21 [o0, o1, o2] (.int x :: st) h Q = Go d 119 22 [o0, o1, some (.int x)] (st) h Q := go_lo (E := (.istore_n 2, 0, 0, 0)) rfl rfl rfl
theorem s_119_22 : Go d 119 22 [o0, o1, some (.int x)] (st) h Q = Go d 119 23 [o0, o1, some (.int x)] (.int x :: st) h Q := go_lo (E := (.iload_n 2, 0, 0, 0)) rfl rfl rfl
theorem s_119_23 : Go d 119 23 [some (.ref r), o1, o2] (st) h Q = Go d 119 24 [some (.ref r), o1, o2] (.ref r :: st) h Q := go_lo (E := (.aload_n 0, 0, 0, 0)) rfl rfl rfl
theorem s_119_24 : Go d 119 24 L (.ref 53 :: st) (HP lx xs M) Q = Go d 119 27 L (.int (M 53 4) :: st) (HP lx xs M) Q := go_gf rfl rfl (by decide) rfl
theorem s_119_27 : Go d 119 27 L (.int y :: .int x :: st) h Q = (if x < y then Go d 119 30 L st h Q else Go d 119 66 L st h Q) := go_icge rfl
theorem s_119_30 : Go d 119 30 [some (.ref r), o1, o2] (st) h Q = Go d 119 31 [some (.ref r), o1, o2] (.ref r :: st) h Q := go_lo (E := (.aload_n 0, 0, 0, 0)) rfl rfl rfl
theorem s_119_31 : Go d 119 31 L (.ref 53 :: st) (HP lx xs M) Q = Go d 119 34 L (.ref 55 :: st) (HP lx xs M) Q := go_gf rfl rfl (by decide) rfl
theorem s_119_34 : Go d 119 34 [o0, o1, some (.int x)] (st) h Q = Go d 119 35 [o0, o1, some (.int x)] (.int x :: st) h Q := go_lo (E := (.iload_n 2, 0, 0, 0)) rfl rfl rfl
theorem s_119_35 : Go d 119 35 L (.int x :: .ref r2 :: st) h Q = Go d 119 36 L (.int x :: .ref r2 :: .int x :: .ref r2 :: st) h Q := go_op (E := (.dup2, 0, 0, 0)) rfl rfl
theorem s_119_36 : Go d 119 36 L (.int x :: .ref 55 :: st) (HP lx xs M) Q = (ex_in x 6 = true ∧ Go d 119 37 L (.int (M 55 x.toNatClampNeg) :: st) (HP lx xs M) Q) := go_al rfl rfl
theorem s_119_37 : Go d 119 37 L (st) h Q = Go d 119 38 L (.int (nI 1) :: st) h Q := go_ic rfl ci_i1
theorem s_119_38 : Go d 119 38 [some (.ref r), o1, o2] (st) h Q = Go d 119 39 [some (.ref r), o1, o2] (.ref r :: st) h Q := go_lo (E := (.aload_n 0, 0, 0, 0)) rfl rfl rfl
theorem s_119_39 : Go d 119 39 L (.ref 53 :: st) (HP lx xs M) Q = Go d 119 42 L (.int (M 53 4) :: st) (HP lx xs M) Q := go_gf rfl rfl (by decide) rfl
theorem s_119_42 : Go d 119 42 L (.int y :: .int x :: st) h Q = Go d 119 43 L (.int (x <<< (y &&& 31)) :: st) h Q := go_op (E := (.ishl, 0, 0, 0)) rfl rfl
theorem s_119_43 : Go d 119 43 L (.int y :: .int x :: st) h Q = Go d 119 44 L (.int (x ||| y) :: st) h Q := go_op (E := (.ior, 0, 0, 0)) rfl rfl
theorem s_119_44 : Go d 119 44 L (.int y :: .int x :: .ref 55 :: st) (HP lx xs M) Q = (ex_in x 6 = true ∧ Go d 119 45 L (st) (HP lx xs (up M 55 x.toNatClampNeg y)) Q) := go_as rfl rfl (by decide) hs_55
theorem s_119_45 : Go d 119 45 [some (.ref r), o1, o2] (st) h Q = Go d 119 46 [some (.ref r), o1, o2] (.ref r :: st) h Q := go_lo (E := (.aload_n 0, 0, 0, 0)) rfl rfl rfl
theorem s_119_46 : Go d 119 46 L (.ref 53 :: st) (HP lx xs M) Q = Go d 119 49 L (.ref 55 :: st) (HP lx xs M) Q := go_gf rfl rfl (by decide) rfl
theorem s_119_49 : Go d 119 49 [some (.ref r), o1, o2] (st) h Q = Go d 119 50 [some (.ref r), o1, o2] (.ref r :: st) h Q := go_lo (E := (.aload_n 0, 0, 0, 0)) rfl rfl rfl
theorem s_119_50 : Go d 119 50 L (.ref 53 :: st) (HP lx xs M) Q = Go d 119 53 L (.int (M 53 4) :: st) (HP lx xs M) Q := go_gf rfl rfl (by decide) rfl
theorem s_119_53 : Go d 119 53 L (.int x :: .ref r2 :: st) h Q = Go d 119 54 L (.int x :: .ref r2 :: .int x :: .ref r2 :: st) h Q := go_op (E := (.dup2, 0, 0, 0)) rfl rfl
theorem s_119_54 : Go d 119 54 L (.int x :: .ref 55 :: st) (HP lx xs M) Q = (ex_in x 6 = true ∧ Go d 119 55 L (.int (M 55 x.toNatClampNeg) :: st) (HP lx xs M) Q) := go_al rfl rfl
theorem s_119_55 : Go d 119 55 L (st) h Q = Go d 119 56 L (.int (nI 1) :: st) h Q := go_ic rfl ci_i1
theorem s_119_56 : Go d 119 56 [o0, o1, some (.int x)] (st) h Q = Go d 119 57 [o0, o1, some (.int x)] (.int x :: st) h Q := go_lo (E := (.iload_n 2, 0, 0, 0)) rfl rfl rfl
theorem s_119_57 : Go d 119 57 L (.int y :: .int x :: st) h Q = Go d 119 58 L (.int (x <<< (y &&& 31)) :: st) h Q := go_op (E := (.ishl, 0, 0, 0)) rfl rfl
theorem s_119_58 : Go d 119 58 L (.int y :: .int x :: st) h Q = Go d 119 59 L (.int (x ||| y) :: st) h Q := go_op (E := (.ior, 0, 0, 0)) rfl rfl
theorem s_119_59 : Go d 119 59 L (.int y :: .int x :: .ref 55 :: st) (HP lx xs M) Q = (ex_in x 6 = true ∧ Go d 119 60 L (st) (HP lx xs (up M 55 x.toNatClampNeg y)) Q) := go_as rfl rfl (by decide) hs_55
theorem s_119_60 : Go d 119 60 [o0, o1, some (.int x)] (st) h Q = Go d 119 63 [o0, o1, some (.int (x + nI 1))] (st) h Q := (ci_i1 ▸ go_lo (E := (.iinc 2 1, 0, 0, 0)) rfl rfl rfl : _ = Go d 119 63 [o0, o1, some (.int (x + nI 1))] (st) h Q)
theorem s_119_63 : Go d 119 63 L (st) h Q = Go d 119 22 L (st) h Q := go_goto rfl
theorem s_119_66 : Go d 119 66 L (st) h Q = Go d 119 67 L (.int (nI 0) :: st) h Q := go_ic rfl ci_i0
theorem s_119_67 : Go d 119 67 [o0, o1, o2] (.int x :: st) h Q = Go d 119 68 [o0, o1, some (.int x)] (st) h Q := go_lo (E := (.istore_n 2, 0, 0, 0)) rfl rfl rfl
theorem s_119_68 : Go d 119 68 [o0, o1, some (.int x)] (st) h Q = Go d 119 69 [o0, o1, some (.int x)] (.int x :: st) h Q := go_lo (E := (.iload_n 2, 0, 0, 0)) rfl rfl rfl
theorem s_119_69 : Go d 119 69 L (st) h Q = Go d 119 70 L (.int (nI 4) :: st) h Q := go_ic rfl ci_i4
theorem s_119_70 : Go d 119 70 L (.int y :: .int x :: st) h Q = (if x < y then Go d 119 73 L st h Q else Go d 119 94 L st h Q) := go_icge rfl
theorem s_119_73 : Go d 119 73 [some (.ref r), o1, o2] (st) h Q = Go d 119 74 [some (.ref r), o1, o2] (.ref r :: st) h Q := go_lo (E := (.aload_n 0, 0, 0, 0)) rfl rfl rfl
theorem s_119_74 : Go d 119 74 L (.ref 53 :: st) (HP lx xs M) Q = Go d 119 77 L (.ref 56 :: st) (HP lx xs M) Q := go_gf rfl rfl (by decide) rfl
theorem s_119_77 : Go d 119 77 L (st) h Q = Go d 119 78 L (.int (nI 4) :: st) h Q := go_ic rfl ci_i4
theorem s_119_78 : Go d 119 78 [some (.ref r), o1, o2] (st) h Q = Go d 119 79 [some (.ref r), o1, o2] (.ref r :: st) h Q := go_lo (E := (.aload_n 0, 0, 0, 0)) rfl rfl rfl
theorem s_119_79 : Go d 119 79 L (.ref 53 :: st) (HP lx xs M) Q = Go d 119 82 L (.int (M 53 4) :: st) (HP lx xs M) Q := go_gf rfl rfl (by decide) rfl
theorem s_119_82 : Go d 119 82 L (.int y :: .int x :: st) h Q = Go d 119 83 L (.int (x * y) :: st) h Q := go_op (E := (.imul, 0, 0, 0)) rfl rfl
theorem s_119_83 : Go d 119 83 [o0, o1, some (.int x)] (st) h Q = Go d 119 84 [o0, o1, some (.int x)] (.int x :: st) h Q := go_lo (E := (.iload_n 2, 0, 0, 0)) rfl rfl rfl
theorem s_119_84 : Go d 119 84 L (.int y :: .int x :: st) h Q = Go d 119 85 L (.int (x + y) :: st) h Q := go_op (E := (.iadd, 0, 0, 0)) rfl rfl
theorem s_119_85 : Go d 119 85 L (st) h Q = Go d 119 87 L (.int (nI 97) :: st) h Q := go_bi rfl ci_b97
theorem s_119_87 : Go d 119 87 L (.int y :: .int x :: .ref 56 :: st) (HP lx xs M) Q = (ex_in x 24 = true ∧ Go d 119 88 L (st) (HP lx xs (up M 56 x.toNatClampNeg y)) Q) := go_as rfl rfl (by decide) hs_56
theorem s_119_88 : Go d 119 88 [o0, o1, some (.int x)] (st) h Q = Go d 119 91 [o0, o1, some (.int (x + nI 1))] (st) h Q := (ci_i1 ▸ go_lo (E := (.iinc 2 1, 0, 0, 0)) rfl rfl rfl : _ = Go d 119 91 [o0, o1, some (.int (x + nI 1))] (st) h Q)
theorem s_119_91 : Go d 119 91 L (st) h Q = Go d 119 68 L (st) h Q := go_goto rfl
theorem s_119_94 : Go d 119 94 [some (.ref r), o1, o2] (st) h Q = Go d 119 95 [some (.ref r), o1, o2] (.ref r :: st) h Q := go_lo (E := (.aload_n 0, 0, 0, 0)) rfl rfl rfl
theorem s_119_95 : Go d 119 95 L (.ref r :: st) h Q = Go d 119 96 L (.ref r :: .ref r :: st) h Q := go_op (E := (.dup, 0, 0, 0)) rfl rfl
theorem s_119_96 : Go d 119 96 L (.ref 53 :: st) (HP lx xs M) Q = Go d 119 99 L (.int (M 53 4) :: st) (HP lx xs M) Q := go_gf rfl rfl (by decide) rfl
theorem s_119_99 : Go d 119 99 L (st) h Q = Go d 119 100 L (.int (nI 1) :: st) h Q := go_ic rfl ci_i1
theorem s_119_100 : Go d 119 100 L (.int y :: .int x :: st) h Q = Go d 119 101 L (.int (x + y) :: st) h Q := go_op (E := (.iadd, 0, 0, 0)) rfl rfl
theorem s_119_101 : Go d 119 101 L (.int x :: .ref 53 :: st) (HP lx xs M) Q = Go d 119 104 L (st) (HP lx xs (up M 53 4 x)) Q := go_pf rfl rfl (by decide) (Nat.le_of_ble_eq_true rfl) rfl hf_53_4
theorem s_119_104 : Go d 119 104 L [] h Q = Q none h := go_rv rfl rfl
theorem s_120_0 : Go d 120 0 [o0, some (.int x)] (st) h Q = Go d 120 1 [o0, some (.int x)] (.int x :: st) h Q := go_lo (E := (.iload_n 1, 0, 0, 0)) rfl rfl rfl
theorem s_120_1 : Go d 120 1 L (.int x :: st) h Q = Go d 120 2 L (.long (x.toInt64) :: st) h Q := go_op (E := (.i2l, 0, 0, 0)) rfl rfl
theorem s_120_2 : Go d 120 2 L (st) h Q = Go d 120 3 L (.long (lN 0) :: st) h Q := go_op (E := (.lconst 0, 0, 0, 0)) rfl rfl
theorem s_120_3 : Go d 120 3 L (st) h Q = Go d 120 6 L (.long (lN 3) :: st) h Q := go_ld2 rfl ci_l3
theorem s_120_6 {al0 : Int64} {al1 : Int64} {al2 : Int64} : Go (d + 1) 120 6 L [.long al2, .long al1, .long al0] h Q = Go d 114 0 [some (.long al0), none, some (.long al1), none, some (.long al2), none] [] h (fun v h2 => Go (d + 1) 120 9 L (ap v []) h2 Q) := go_cx (E := (.invokestatic 84, 114, 0, 0)) (k' := 114) (as := [.long al0, .long al1, .long al2]) rfl rfl rfl rfl rfl rfl rfl rfl
theorem s_120_9 : Go d 120 9 L (.int x :: st) h Q = (if x = 0 then Go d 120 12 L st h Q else Go d 120 14 L st h Q) := go_ifne rfl
theorem s_120_12 : Go d 120 12 L (st) h Q = Go d 120 13 L (.int (-1) :: st) h Q := go_ic rfl ci_im1
theorem s_120_13 : Go d 120 13 L [.int x] h Q = Q (some (.int x)) h := go_ri rfl rfl
theorem s_120_14 : Go d 120 14 [some (.ref r), o1] (st) h Q = Go d 120 15 [some (.ref r), o1] (.ref r :: st) h Q := go_lo (E := (.aload_n 0, 0, 0, 0)) rfl rfl rfl
theorem s_120_15 : Go d 120 15 L (.ref 53 :: st) (HP lx xs M) Q = Go d 120 18 L (.int (M 53 4) :: st) (HP lx xs M) Q := go_gf rfl rfl (by decide) rfl
theorem s_120_18 : Go d 120 18 L (st) h Q = Go d 120 20 L (.int (nI 6) :: st) h Q := go_bi rfl ci_b6
theorem s_120_20 : Go d 120 20 L (.int y :: .int x :: st) h Q = (if x = y then Go d 120 23 L st h Q else Go d 120 26 L st h Q) := go_icne rfl
theorem s_120_23 : Go d 120 23 L (st) h Q = Go d 120 25 L (.int (-3) :: st) h Q := go_bi rfl ci_bm3
theorem s_120_25 : Go d 120 25 L [.int x] h Q = Q (some (.int x)) h := go_ri rfl rfl
theorem s_120_26 : Go d 120 26 [some (.ref r), o1] (st) h Q = Go d 120 27 [some (.ref r), o1] (.ref r :: st) h Q := go_lo (E := (.aload_n 0, 0, 0, 0)) rfl rfl rfl
theorem s_120_27 : Go d 120 27 [o0, some (.int x)] (st) h Q = Go d 120 28 [o0, some (.int x)] (.int x :: st) h Q := go_lo (E := (.iload_n 1, 0, 0, 0)) rfl rfl rfl
theorem s_120_28 {a1 : Int32} : Go (d + 1) 120 28 L [.int a1, .ref 53] (HP lx xs M) Q = Go d 119 0 [some (.ref 53), some (.int a1), none] [] (HP lx xs M) (fun v h2 => Go (d + 1) 120 31 L (ap v []) h2 Q) := go_cx (E := (.invokevirtual 94, 119, 0, 7)) (k' := 119) (as := [.ref 53, .int a1]) rfl rfl rfl rfl rfl rfl rfl rfl
theorem s_120_31 : Go d 120 31 [some (.ref r), o1] (st) h Q = Go d 120 32 [some (.ref r), o1] (.ref r :: st) h Q := go_lo (E := (.aload_n 0, 0, 0, 0)) rfl rfl rfl
theorem s_120_32 : Go d 120 32 L (.ref 53 :: st) (HP lx xs M) Q = Go d 120 35 L (.int (M 53 4) :: st) (HP lx xs M) Q := go_gf rfl rfl (by decide) rfl
theorem s_120_35 : Go d 120 35 L (st) h Q = Go d 120 36 L (.int (nI 1) :: st) h Q := go_ic rfl ci_i1
theorem s_120_36 : Go d 120 36 L (.int y :: .int x :: st) h Q = Go d 120 37 L (.int (x - y) :: st) h Q := go_op (E := (.isub, 0, 0, 0)) rfl rfl
theorem s_120_37 : Go d 120 37 L [.int x] h Q = Q (some (.int x)) h := go_ri rfl rfl
theorem s_121_0 : Go d 121 0 [some (.ref r), o1, o2, o3, o4] (st) h Q = Go d 121 1 [some (.ref r), o1, o2, o3, o4] (.ref r :: st) h Q := go_lo (E := (.aload_n 0, 0, 0, 0)) rfl rfl rfl
theorem s_121_1 : Go d 121 1 [o0, some (.int x), o2, o3, o4] (st) h Q = Go d 121 2 [o0, some (.int x), o2, o3, o4] (.int x :: st) h Q := go_lo (E := (.iload_n 1, 0, 0, 0)) rfl rfl rfl
theorem s_121_2 {a1 : Int32} : Go (d + 1) 121 2 L [.int a1, .ref 53] (HP lx xs M) Q = Go d 116 0 [some (.ref 53), some (.int a1)] [] (HP lx xs M) (fun v h2 => Go (d + 1) 121 5 L (ap v []) h2 Q) := go_cx (E := (.invokevirtual 90, 116, 0, 7)) (k' := 116) (as := [.ref 53, .int a1]) rfl rfl rfl rfl rfl rfl rfl rfl
theorem s_121_5 : Go d 121 5 L (.int x :: st) h Q = (if x = 0 then Go d 121 29 L st h Q else Go d 121 8 L st h Q) := go_ifeq rfl
theorem s_121_8 : Go d 121 8 [o0, o1, some (.int x), o3, o4] (st) h Q = Go d 121 9 [o0, o1, some (.int x), o3, o4] (.int x :: st) h Q := go_lo (E := (.iload_n 2, 0, 0, 0)) rfl rfl rfl
theorem s_121_9 {a0 : Int32} : Go (d + 1) 121 9 L [.int a0] h Q = Go d 117 0 [some (.int a0)] [] h (fun v h2 => Go (d + 1) 121 12 L (ap v []) h2 Q) := go_cx (E := (.invokestatic 98, 117, 0, 0)) (k' := 117) (as := [.int a0]) rfl rfl rfl rfl rfl rfl rfl rfl
theorem s_121_12 : Go d 121 12 L (.int x :: st) h Q = (if x = 0 then Go d 121 29 L st h Q else Go d 121 15 L st h Q) := go_ifeq rfl
theorem s_121_15 : Go d 121 15 [o0, o1, o2, some (.int x), o4] (st) h Q = Go d 121 16 [o0, o1, o2, some (.int x), o4] (.int x :: st) h Q := go_lo (E := (.iload_n 3, 0, 0, 0)) rfl rfl rfl
theorem s_121_16 : Go d 121 16 L (.int x :: st) h Q = Go d 121 17 L (.long (x.toInt64) :: st) h Q := go_op (E := (.i2l, 0, 0, 0)) rfl rfl
theorem s_121_17 : Go d 121 17 L (st) h Q = Go d 121 20 L (.long (-1) :: st) h Q := go_ld2 rfl ci_lm1
theorem s_121_20 : Go d 121 20 L (st) h Q = Go d 121 23 L (.long (lN 96) :: st) h Q := go_ld2 rfl ci_l96
theorem s_121_23 {al0 : Int64} {al1 : Int64} {al2 : Int64} : Go (d + 1) 121 23 L [.long al2, .long al1, .long al0] h Q = Go d 114 0 [some (.long al0), none, some (.long al1), none, some (.long al2), none] [] h (fun v h2 => Go (d + 1) 121 26 L (ap v []) h2 Q) := go_cx (E := (.invokestatic 84, 114, 0, 0)) (k' := 114) (as := [.long al0, .long al1, .long al2]) rfl rfl rfl rfl rfl rfl rfl rfl
theorem s_121_26 : Go d 121 26 L (.int x :: st) h Q = (if x = 0 then Go d 121 29 L st h Q else Go d 121 31 L st h Q) := go_ifne rfl
theorem s_121_29 : Go d 121 29 L (st) h Q = Go d 121 30 L (.int (-1) :: st) h Q := go_ic rfl ci_im1
theorem s_121_30 : Go d 121 30 L [.int x] h Q = Q (some (.int x)) h := go_ri rfl rfl
theorem s_121_31 : Go d 121 31 [some (.ref r), o1, o2, o3, o4] (st) h Q = Go d 121 32 [some (.ref r), o1, o2, o3, o4] (.ref r :: st) h Q := go_lo (E := (.aload_n 0, 0, 0, 0)) rfl rfl rfl
theorem s_121_32 : Go d 121 32 L (.ref 53 :: st) (HP lx xs M) Q = Go d 121 35 L (.ref 56 :: st) (HP lx xs M) Q := go_gf rfl rfl (by decide) rfl
theorem s_121_35 : Go d 121 35 L (st) h Q = Go d 121 36 L (.int (nI 4) :: st) h Q := go_ic rfl ci_i4
theorem s_121_36 : Go d 121 36 [o0, some (.int x), o2, o3, o4] (st) h Q = Go d 121 37 [o0, some (.int x), o2, o3, o4] (.int x :: st) h Q := go_lo (E := (.iload_n 1, 0, 0, 0)) rfl rfl rfl
theorem s_121_37 : Go d 121 37 L (.int y :: .int x :: st) h Q = Go d 121 38 L (.int (x * y) :: st) h Q := go_op (E := (.imul, 0, 0, 0)) rfl rfl
theorem s_121_38 : Go d 121 38 [o0, o1, some (.int x), o3, o4] (st) h Q = Go d 121 39 [o0, o1, some (.int x), o3, o4] (.int x :: st) h Q := go_lo (E := (.iload_n 2, 0, 0, 0)) rfl rfl rfl
theorem s_121_39 : Go d 121 39 L (.int y :: .int x :: st) h Q = Go d 121 40 L (.int (x + y) :: st) h Q := go_op (E := (.iadd, 0, 0, 0)) rfl rfl
theorem s_121_40 : Go d 121 40 L (.int x :: .ref 56 :: st) (HP lx xs M) Q = (ex_in x 24 = true ∧ Go d 121 41 L (.int (M 56 x.toNatClampNeg) :: st) (HP lx xs M) Q) := go_al rfl rfl
theorem s_121_41 : Go d 121 41 [o0, o1, o2, o3, o4] (.int x :: st) h Q = Go d 121 43 [o0, o1, o2, o3, some (.int x)] (st) h Q := go_lo (E := (.istore 4, 0, 0, 0)) rfl rfl rfl
theorem s_121_43 : Go d 121 43 [some (.ref r), o1, o2, o3, o4] (st) h Q = Go d 121 44 [some (.ref r), o1, o2, o3, o4] (.ref r :: st) h Q := go_lo (E := (.aload_n 0, 0, 0, 0)) rfl rfl rfl
theorem s_121_44 : Go d 121 44 L (.ref 53 :: st) (HP lx xs M) Q = Go d 121 47 L (.ref 56 :: st) (HP lx xs M) Q := go_gf rfl rfl (by decide) rfl
theorem s_121_47 : Go d 121 47 L (st) h Q = Go d 121 48 L (.int (nI 4) :: st) h Q := go_ic rfl ci_i4
theorem s_121_48 : Go d 121 48 [o0, some (.int x), o2, o3, o4] (st) h Q = Go d 121 49 [o0, some (.int x), o2, o3, o4] (.int x :: st) h Q := go_lo (E := (.iload_n 1, 0, 0, 0)) rfl rfl rfl
theorem s_121_49 : Go d 121 49 L (.int y :: .int x :: st) h Q = Go d 121 50 L (.int (x * y) :: st) h Q := go_op (E := (.imul, 0, 0, 0)) rfl rfl
theorem s_121_50 : Go d 121 50 [o0, o1, some (.int x), o3, o4] (st) h Q = Go d 121 51 [o0, o1, some (.int x), o3, o4] (.int x :: st) h Q := go_lo (E := (.iload_n 2, 0, 0, 0)) rfl rfl rfl
theorem s_121_51 : Go d 121 51 L (.int y :: .int x :: st) h Q = Go d 121 52 L (.int (x + y) :: st) h Q := go_op (E := (.iadd, 0, 0, 0)) rfl rfl
theorem s_121_52 : Go d 121 52 [o0, o1, o2, some (.int x), o4] (st) h Q = Go d 121 53 [o0, o1, o2, some (.int x), o4] (.int x :: st) h Q := go_lo (E := (.iload_n 3, 0, 0, 0)) rfl rfl rfl
theorem s_121_53 : Go d 121 53 L (.int x :: st) h Q = (if x < 0 then Go d 121 56 L st h Q else Go d 121 61 L st h Q) := go_ifge rfl
theorem s_121_56 : Go d 121 56 L (st) h Q = Go d 121 58 L (.int (nI 97) :: st) h Q := go_bi rfl ci_b97
theorem s_121_58 : Go d 121 58 L (st) h Q = Go d 121 62 L (st) h Q := go_goto rfl
theorem s_121_61 : Go d 121 61 [o0, o1, o2, some (.int x), o4] (st) h Q = Go d 121 62 [o0, o1, o2, some (.int x), o4] (.int x :: st) h Q := go_lo (E := (.iload_n 3, 0, 0, 0)) rfl rfl rfl
theorem s_121_62 : Go d 121 62 L (.int y :: .int x :: .ref 56 :: st) (HP lx xs M) Q = (ex_in x 24 = true ∧ Go d 121 63 L (st) (HP lx xs (up M 56 x.toNatClampNeg y)) Q) := go_as rfl rfl (by decide) hs_56
theorem s_121_63 : Go d 121 63 [o0, o1, o2, o3, some (.int x)] (st) h Q = Go d 121 65 [o0, o1, o2, o3, some (.int x)] (.int x :: st) h Q := go_lo (E := (.iload 4, 0, 0, 0)) rfl rfl rfl
theorem s_121_65 : Go d 121 65 L [.int x] h Q = Q (some (.int x)) h := go_ri rfl rfl
theorem s_122_0 : Go d 122 0 [o0, some (.int x), o2, o3] (st) h Q = Go d 122 1 [o0, some (.int x), o2, o3] (.int x :: st) h Q := go_lo (E := (.iload_n 1, 0, 0, 0)) rfl rfl rfl
theorem s_122_1 {a0 : Int32} : Go (d + 1) 122 1 L [.int a0] h Q = Go d 117 0 [some (.int a0)] [] h (fun v h2 => Go (d + 1) 122 4 L (ap v []) h2 Q) := go_cx (E := (.invokestatic 98, 117, 0, 0)) (k' := 117) (as := [.int a0]) rfl rfl rfl rfl rfl rfl rfl rfl
theorem s_122_4 : Go d 122 4 L (.int x :: st) h Q = (if x = 0 then Go d 122 27 L st h Q else Go d 122 7 L st h Q) := go_ifeq rfl
theorem s_122_7 : Go d 122 7 [o0, o1, some (.int x), o3] (st) h Q = Go d 122 8 [o0, o1, some (.int x), o3] (.int x :: st) h Q := go_lo (E := (.iload_n 2, 0, 0, 0)) rfl rfl rfl
theorem s_122_8 : Go d 122 8 L (.int x :: st) h Q = Go d 122 9 L (.long (x.toInt64) :: st) h Q := go_op (E := (.i2l, 0, 0, 0)) rfl rfl
theorem s_122_9 : Go d 122 9 L (st) h Q = Go d 122 10 L (.long (lN 0) :: st) h Q := go_op (E := (.lconst 0, 0, 0, 0)) rfl rfl
theorem s_122_10 : Go d 122 10 L (st) h Q = Go d 122 13 L (.long (lN 15) :: st) h Q := go_ld2 rfl ci_l15
theorem s_122_13 {al0 : Int64} {al1 : Int64} {al2 : Int64} : Go (d + 1) 122 13 L [.long al2, .long al1, .long al0] h Q = Go d 114 0 [some (.long al0), none, some (.long al1), none, some (.long al2), none] [] h (fun v h2 => Go (d + 1) 122 16 L (ap v []) h2 Q) := go_cx (E := (.invokestatic 84, 114, 0, 0)) (k' := 114) (as := [.long al0, .long al1, .long al2]) rfl rfl rfl rfl rfl rfl rfl rfl
theorem s_122_16 : Go d 122 16 L (.int x :: st) h Q = (if x = 0 then Go d 122 27 L st h Q else Go d 122 19 L st h Q) := go_ifeq rfl
theorem s_122_19 : Go d 122 19 [o0, o1, some (.int x), o3] (st) h Q = Go d 122 20 [o0, o1, some (.int x), o3] (.int x :: st) h Q := go_lo (E := (.iload_n 2, 0, 0, 0)) rfl rfl rfl
theorem s_122_20 : Go d 122 20 [o0, some (.int x), o2, o3] (st) h Q = Go d 122 21 [o0, some (.int x), o2, o3] (.int x :: st) h Q := go_lo (E := (.iload_n 1, 0, 0, 0)) rfl rfl rfl
theorem s_122_21 {a0 : Int32} {a1 : Int32} : Go (d + 1) 122 21 L [.int a1, .int a0] h Q = Go d 115 0 [some (.int a0), some (.int a1)] [] h (fun v h2 => Go (d + 1) 122 24 L (ap v []) h2 Q) := go_cx (E := (.invokestatic 107, 115, 0, 0)) (k' := 115) (as := [.int a0, .int a1]) rfl rfl rfl rfl rfl rfl rfl rfl
theorem s_122_24 : Go d 122 24 L (.int x :: st) h Q = (if x = 0 then Go d 122 29 L st h Q else Go d 122 27 L st h Q) := go_ifeq rfl
theorem s_122_27 : Go d 122 27 L (st) h Q = Go d 122 28 L (.int (-1) :: st) h Q := go_ic rfl ci_im1
theorem s_122_28 : Go d 122 28 L [.int x] h Q = Q (some (.int x)) h := go_ri rfl rfl
theorem s_122_29 : Go d 122 29 [some (.ref r), o1, o2, o3] (st) h Q = Go d 122 30 [some (.ref r), o1, o2, o3] (.ref r :: st) h Q := go_lo (E := (.aload_n 0, 0, 0, 0)) rfl rfl rfl
theorem s_122_30 : Go d 122 30 L (.ref 53 :: st) (HP lx xs M) Q = Go d 122 33 L (.ref 57 :: st) (HP lx xs M) Q := go_gf rfl rfl (by decide) rfl
theorem s_122_33 : Go d 122 33 [o0, some (.int x), o2, o3] (st) h Q = Go d 122 34 [o0, some (.int x), o2, o3] (.int x :: st) h Q := go_lo (E := (.iload_n 1, 0, 0, 0)) rfl rfl rfl
theorem s_122_34 : Go d 122 34 L (.int x :: .ref 57 :: st) (HP lx xs M) Q = (ex_in x 4 = true ∧ Go d 122 35 L (.int (M 57 x.toNatClampNeg) :: st) (HP lx xs M) Q) := go_al rfl rfl
theorem s_122_35 : Go d 122 35 [o0, o1, o2, o3] (.int x :: st) h Q = Go d 122 36 [o0, o1, o2, some (.int x)] (st) h Q := go_lo (E := (.istore_n 3, 0, 0, 0)) rfl rfl rfl
theorem s_122_36 : Go d 122 36 [some (.ref r), o1, o2, o3] (st) h Q = Go d 122 37 [some (.ref r), o1, o2, o3] (.ref r :: st) h Q := go_lo (E := (.aload_n 0, 0, 0, 0)) rfl rfl rfl
theorem s_122_37 : Go d 122 37 L (.ref 53 :: st) (HP lx xs M) Q = Go d 122 40 L (.ref 57 :: st) (HP lx xs M) Q := go_gf rfl rfl (by decide) rfl
theorem s_122_40 : Go d 122 40 [o0, some (.int x), o2, o3] (st) h Q = Go d 122 41 [o0, some (.int x), o2, o3] (.int x :: st) h Q := go_lo (E := (.iload_n 1, 0, 0, 0)) rfl rfl rfl
theorem s_122_41 : Go d 122 41 [o0, o1, some (.int x), o3] (st) h Q = Go d 122 42 [o0, o1, some (.int x), o3] (.int x :: st) h Q := go_lo (E := (.iload_n 2, 0, 0, 0)) rfl rfl rfl
theorem s_122_42 : Go d 122 42 L (.int y :: .int x :: .ref 57 :: st) (HP lx xs M) Q = (ex_in x 4 = true ∧ Go d 122 43 L (st) (HP lx xs (up M 57 x.toNatClampNeg y)) Q) := go_as rfl rfl (by decide) hs_57
theorem s_122_43 : Go d 122 43 [o0, o1, o2, some (.int x)] (st) h Q = Go d 122 44 [o0, o1, o2, some (.int x)] (.int x :: st) h Q := go_lo (E := (.iload_n 3, 0, 0, 0)) rfl rfl rfl
theorem s_122_44 : Go d 122 44 L [.int x] h Q = Q (some (.int x)) h := go_ri rfl rfl
theorem s_123_0 : Go d 123 0 [some (.ref r), o1, o2, o3, o4] (st) h Q = Go d 123 1 [some (.ref r), o1, o2, o3, o4] (.ref r :: st) h Q := go_lo (E := (.aload_n 0, 0, 0, 0)) rfl rfl rfl
theorem s_123_1 : Go d 123 1 [o0, some (.int x), o2, o3, o4] (st) h Q = Go d 123 2 [o0, some (.int x), o2, o3, o4] (.int x :: st) h Q := go_lo (E := (.iload_n 1, 0, 0, 0)) rfl rfl rfl
theorem s_123_2 : Go d 123 2 [o0, o1, some (.int x), o3, o4] (st) h Q = Go d 123 3 [o0, o1, some (.int x), o3, o4] (.int x :: st) h Q := go_lo (E := (.iload_n 2, 0, 0, 0)) rfl rfl rfl
theorem s_123_3 {a1 : Int32} {a2 : Int32} : Go (d + 1) 123 3 L [.int a2, .int a1, .ref 53] (HP lx xs M) Q = Go d 118 0 [some (.ref 53), some (.int a1), some (.int a2)] [] (HP lx xs M) (fun v h2 => Go (d + 1) 123 6 L (ap v []) h2 Q) := go_cx (E := (.invokevirtual 111, 118, 0, 7)) (k' := 118) (as := [.ref 53, .int a1, .int a2]) rfl rfl rfl rfl rfl rfl rfl rfl
theorem s_123_6 : Go d 123 6 L (.int x :: st) h Q = (if x = 0 then Go d 123 9 L st h Q else Go d 123 11 L st h Q) := go_ifne rfl
theorem s_123_9 : Go d 123 9 L (st) h Q = Go d 123 10 L (.int (-1) :: st) h Q := go_ic rfl ci_im1
theorem s_123_10 : Go d 123 10 L [.int x] h Q = Q (some (.int x)) h := go_ri rfl rfl
theorem s_123_11 : Go d 123 11 [some (.ref r), o1, o2, o3, o4] (st) h Q = Go d 123 12 [some (.ref r), o1, o2, o3, o4] (.ref r :: st) h Q := go_lo (E := (.aload_n 0, 0, 0, 0)) rfl rfl rfl
theorem s_123_12 : Go d 123 12 L (.ref 53 :: st) (HP lx xs M) Q = Go d 123 15 L (.ref 55 :: st) (HP lx xs M) Q := go_gf rfl rfl (by decide) rfl
theorem s_123_15 : Go d 123 15 [o0, some (.int x), o2, o3, o4] (st) h Q = Go d 123 16 [o0, some (.int x), o2, o3, o4] (.int x :: st) h Q := go_lo (E := (.iload_n 1, 0, 0, 0)) rfl rfl rfl
theorem s_123_16 : Go d 123 16 L (.int x :: .ref 55 :: st) (HP lx xs M) Q = (ex_in x 6 = true ∧ Go d 123 17 L (.int (M 55 x.toNatClampNeg) :: st) (HP lx xs M) Q) := go_al rfl rfl
theorem s_123_17 : Go d 123 17 [o0, o1, some (.int x), o3, o4] (st) h Q = Go d 123 18 [o0, o1, some (.int x), o3, o4] (.int x :: st) h Q := go_lo (E := (.iload_n 2, 0, 0, 0)) rfl rfl rfl
theorem s_123_18 : Go d 123 18 L (.int y :: .int x :: st) h Q = Go d 123 19 L (.int (x >>> (y &&& 31)) :: st) h Q := go_op (E := (.ishr, 0, 0, 0)) rfl rfl
theorem s_123_19 : Go d 123 19 L (st) h Q = Go d 123 20 L (.int (nI 1) :: st) h Q := go_ic rfl ci_i1
theorem s_123_20 : Go d 123 20 L (.int y :: .int x :: st) h Q = Go d 123 21 L (.int (x &&& y) :: st) h Q := go_op (E := (.iand, 0, 0, 0)) rfl rfl
theorem s_123_21 : Go d 123 21 [o0, o1, o2, o3, o4] (.int x :: st) h Q = Go d 123 23 [o0, o1, o2, o3, some (.int x)] (st) h Q := go_lo (E := (.istore 4, 0, 0, 0)) rfl rfl rfl
theorem s_123_23 : Go d 123 23 [some (.ref r), o1, o2, o3, o4] (st) h Q = Go d 123 24 [some (.ref r), o1, o2, o3, o4] (.ref r :: st) h Q := go_lo (E := (.aload_n 0, 0, 0, 0)) rfl rfl rfl
theorem s_123_24 : Go d 123 24 L (.ref 53 :: st) (HP lx xs M) Q = Go d 123 27 L (.ref 55 :: st) (HP lx xs M) Q := go_gf rfl rfl (by decide) rfl
theorem s_123_27 : Go d 123 27 [o0, some (.int x), o2, o3, o4] (st) h Q = Go d 123 28 [o0, some (.int x), o2, o3, o4] (.int x :: st) h Q := go_lo (E := (.iload_n 1, 0, 0, 0)) rfl rfl rfl
theorem s_123_28 : Go d 123 28 [o0, o1, o2, some (.int x), o4] (st) h Q = Go d 123 29 [o0, o1, o2, some (.int x), o4] (.int x :: st) h Q := go_lo (E := (.iload_n 3, 0, 0, 0)) rfl rfl rfl
theorem s_123_29 : Go d 123 29 L (.int x :: st) h Q = (if x = 0 then Go d 123 45 L st h Q else Go d 123 32 L st h Q) := go_ifeq rfl
theorem s_123_32 : Go d 123 32 [some (.ref r), o1, o2, o3, o4] (st) h Q = Go d 123 33 [some (.ref r), o1, o2, o3, o4] (.ref r :: st) h Q := go_lo (E := (.aload_n 0, 0, 0, 0)) rfl rfl rfl
theorem s_123_33 : Go d 123 33 L (.ref 53 :: st) (HP lx xs M) Q = Go d 123 36 L (.ref 55 :: st) (HP lx xs M) Q := go_gf rfl rfl (by decide) rfl
theorem s_123_36 : Go d 123 36 [o0, some (.int x), o2, o3, o4] (st) h Q = Go d 123 37 [o0, some (.int x), o2, o3, o4] (.int x :: st) h Q := go_lo (E := (.iload_n 1, 0, 0, 0)) rfl rfl rfl
theorem s_123_37 : Go d 123 37 L (.int x :: .ref 55 :: st) (HP lx xs M) Q = (ex_in x 6 = true ∧ Go d 123 38 L (.int (M 55 x.toNatClampNeg) :: st) (HP lx xs M) Q) := go_al rfl rfl
theorem s_123_38 : Go d 123 38 L (st) h Q = Go d 123 39 L (.int (nI 1) :: st) h Q := go_ic rfl ci_i1
theorem s_123_39 : Go d 123 39 [o0, o1, some (.int x), o3, o4] (st) h Q = Go d 123 40 [o0, o1, some (.int x), o3, o4] (.int x :: st) h Q := go_lo (E := (.iload_n 2, 0, 0, 0)) rfl rfl rfl
theorem s_123_40 : Go d 123 40 L (.int y :: .int x :: st) h Q = Go d 123 41 L (.int (x <<< (y &&& 31)) :: st) h Q := go_op (E := (.ishl, 0, 0, 0)) rfl rfl
theorem s_123_41 : Go d 123 41 L (.int y :: .int x :: st) h Q = Go d 123 42 L (.int (x ||| y) :: st) h Q := go_op (E := (.ior, 0, 0, 0)) rfl rfl
theorem s_123_42 : Go d 123 42 L (st) h Q = Go d 123 57 L (st) h Q := go_goto rfl
theorem s_123_45 : Go d 123 45 [some (.ref r), o1, o2, o3, o4] (st) h Q = Go d 123 46 [some (.ref r), o1, o2, o3, o4] (.ref r :: st) h Q := go_lo (E := (.aload_n 0, 0, 0, 0)) rfl rfl rfl
theorem s_123_46 : Go d 123 46 L (.ref 53 :: st) (HP lx xs M) Q = Go d 123 49 L (.ref 55 :: st) (HP lx xs M) Q := go_gf rfl rfl (by decide) rfl
theorem s_123_49 : Go d 123 49 [o0, some (.int x), o2, o3, o4] (st) h Q = Go d 123 50 [o0, some (.int x), o2, o3, o4] (.int x :: st) h Q := go_lo (E := (.iload_n 1, 0, 0, 0)) rfl rfl rfl
theorem s_123_50 : Go d 123 50 L (.int x :: .ref 55 :: st) (HP lx xs M) Q = (ex_in x 6 = true ∧ Go d 123 51 L (.int (M 55 x.toNatClampNeg) :: st) (HP lx xs M) Q) := go_al rfl rfl
theorem s_123_51 : Go d 123 51 L (st) h Q = Go d 123 52 L (.int (nI 1) :: st) h Q := go_ic rfl ci_i1
theorem s_123_52 : Go d 123 52 [o0, o1, some (.int x), o3, o4] (st) h Q = Go d 123 53 [o0, o1, some (.int x), o3, o4] (.int x :: st) h Q := go_lo (E := (.iload_n 2, 0, 0, 0)) rfl rfl rfl
theorem s_123_53 : Go d 123 53 L (.int y :: .int x :: st) h Q = Go d 123 54 L (.int (x <<< (y &&& 31)) :: st) h Q := go_op (E := (.ishl, 0, 0, 0)) rfl rfl
theorem s_123_54 : Go d 123 54 L (st) h Q = Go d 123 55 L (.int (-1) :: st) h Q := go_ic rfl ci_im1
theorem s_123_55 : Go d 123 55 L (.int y :: .int x :: st) h Q = Go d 123 56 L (.int (x ^^^ y) :: st) h Q := go_op (E := (.ixor, 0, 0, 0)) rfl rfl
theorem s_123_56 : Go d 123 56 L (.int y :: .int x :: st) h Q = Go d 123 57 L (.int (x &&& y) :: st) h Q := go_op (E := (.iand, 0, 0, 0)) rfl rfl
theorem s_123_57 : Go d 123 57 L (.int y :: .int x :: .ref 55 :: st) (HP lx xs M) Q = (ex_in x 6 = true ∧ Go d 123 58 L (st) (HP lx xs (up M 55 x.toNatClampNeg y)) Q) := go_as rfl rfl (by decide) hs_55
theorem s_123_58 : Go d 123 58 [o0, o1, o2, o3, some (.int x)] (st) h Q = Go d 123 60 [o0, o1, o2, o3, some (.int x)] (.int x :: st) h Q := go_lo (E := (.iload 4, 0, 0, 0)) rfl rfl rfl
theorem s_123_60 : Go d 123 60 L [.int x] h Q = Q (some (.int x)) h := go_ri rfl rfl
theorem s_124_0 : Go d 124 0 L (st) h Q = Go d 124 1 L (.int (nI 0) :: st) h Q := go_ic rfl ci_i0
theorem s_124_1 : Go d 124 1 [o0, o1, o2, o3] (.int x :: st) h Q = Go d 124 2 [o0, o1, some (.int x), o3] (st) h Q := go_lo (E := (.istore_n 2, 0, 0, 0)) rfl rfl rfl
theorem s_124_2 : Go d 124 2 L (st) h Q = Go d 124 3 L (.int (nI 0) :: st) h Q := go_ic rfl ci_i0
theorem s_124_3 : Go d 124 3 [o0, o1, o2, o3] (.int x :: st) h Q = Go d 124 4 [o0, o1, o2, some (.int x)] (st) h Q := go_lo (E := (.istore_n 3, 0, 0, 0)) rfl rfl rfl
theorem s_124_4 : Go d 124 4 [o0, o1, o2, some (.int x)] (st) h Q = Go d 124 5 [o0, o1, o2, some (.int x)] (.int x :: st) h Q := go_lo (E := (.iload_n 3, 0, 0, 0)) rfl rfl rfl
theorem s_124_5 : Go d 124 5 L (st) h Q = Go d 124 6 L (.int (nI 4) :: st) h Q := go_ic rfl ci_i4
theorem s_124_6 : Go d 124 6 L (.int y :: .int x :: st) h Q = (if x < y then Go d 124 9 L st h Q else Go d 124 40 L st h Q) := go_icge rfl
theorem s_124_9 : Go d 124 9 [o0, o1, some (.int x), o3] (st) h Q = Go d 124 10 [o0, o1, some (.int x), o3] (.int x :: st) h Q := go_lo (E := (.iload_n 2, 0, 0, 0)) rfl rfl rfl
theorem s_124_10 : Go d 124 10 [some (.ref r), o1, o2, o3] (st) h Q = Go d 124 11 [some (.ref r), o1, o2, o3] (.ref r :: st) h Q := go_lo (E := (.aload_n 0, 0, 0, 0)) rfl rfl rfl
theorem s_124_11 : Go d 124 11 L (.ref 53 :: st) (HP lx xs M) Q = Go d 124 14 L (.ref 56 :: st) (HP lx xs M) Q := go_gf rfl rfl (by decide) rfl
theorem s_124_14 : Go d 124 14 L (st) h Q = Go d 124 15 L (.int (nI 4) :: st) h Q := go_ic rfl ci_i4
theorem s_124_15 : Go d 124 15 [o0, some (.int x), o2, o3] (st) h Q = Go d 124 16 [o0, some (.int x), o2, o3] (.int x :: st) h Q := go_lo (E := (.iload_n 1, 0, 0, 0)) rfl rfl rfl
theorem s_124_16 : Go d 124 16 L (.int y :: .int x :: st) h Q = Go d 124 17 L (.int (x * y) :: st) h Q := go_op (E := (.imul, 0, 0, 0)) rfl rfl
theorem s_124_17 : Go d 124 17 [o0, o1, o2, some (.int x)] (st) h Q = Go d 124 18 [o0, o1, o2, some (.int x)] (.int x :: st) h Q := go_lo (E := (.iload_n 3, 0, 0, 0)) rfl rfl rfl
theorem s_124_18 : Go d 124 18 L (.int y :: .int x :: st) h Q = Go d 124 19 L (.int (x + y) :: st) h Q := go_op (E := (.iadd, 0, 0, 0)) rfl rfl
theorem s_124_19 : Go d 124 19 L (.int x :: .ref 56 :: st) (HP lx xs M) Q = (ex_in x 24 = true ∧ Go d 124 20 L (.int (M 56 x.toNatClampNeg) :: st) (HP lx xs M) Q) := go_al rfl rfl
theorem s_124_20 : Go d 124 20 L (st) h Q = Go d 124 22 L (.int (nI 97) :: st) h Q := go_bi rfl ci_b97
theorem s_124_22 : Go d 124 22 L (.int y :: .int x :: st) h Q = (if x < y then Go d 124 25 L st h Q else Go d 124 31 L st h Q) := go_icge rfl
theorem s_124_25 : Go d 124 25 L (st) h Q = Go d 124 26 L (.int (nI 1) :: st) h Q := go_ic rfl ci_i1
theorem s_124_26 : Go d 124 26 [o0, o1, o2, some (.int x)] (st) h Q = Go d 124 27 [o0, o1, o2, some (.int x)] (.int x :: st) h Q := go_lo (E := (.iload_n 3, 0, 0, 0)) rfl rfl rfl
theorem s_124_27 : Go d 124 27 L (.int y :: .int x :: st) h Q = Go d 124 28 L (.int (x <<< (y &&& 31)) :: st) h Q := go_op (E := (.ishl, 0, 0, 0)) rfl rfl
theorem s_124_28 : Go d 124 28 L (st) h Q = Go d 124 32 L (st) h Q := go_goto rfl
theorem s_124_31 : Go d 124 31 L (st) h Q = Go d 124 32 L (.int (nI 0) :: st) h Q := go_ic rfl ci_i0
theorem s_124_32 : Go d 124 32 L (.int y :: .int x :: st) h Q = Go d 124 33 L (.int (x ||| y) :: st) h Q := go_op (E := (.ior, 0, 0, 0)) rfl rfl
theorem s_124_33 : Go d 124 33 [o0, o1, o2, o3] (.int x :: st) h Q = Go d 124 34 [o0, o1, some (.int x), o3] (st) h Q := go_lo (E := (.istore_n 2, 0, 0, 0)) rfl rfl rfl
theorem s_124_34 : Go d 124 34 [o0, o1, o2, some (.int x)] (st) h Q = Go d 124 37 [o0, o1, o2, some (.int (x + nI 1))] (st) h Q := (ci_i1 ▸ go_lo (E := (.iinc 3 1, 0, 0, 0)) rfl rfl rfl : _ = Go d 124 37 [o0, o1, o2, some (.int (x + nI 1))] (st) h Q)
theorem s_124_37 : Go d 124 37 L (st) h Q = Go d 124 4 L (st) h Q := go_goto rfl
theorem s_124_40 : Go d 124 40 [o0, o1, some (.int x), o3] (st) h Q = Go d 124 41 [o0, o1, some (.int x), o3] (.int x :: st) h Q := go_lo (E := (.iload_n 2, 0, 0, 0)) rfl rfl rfl
theorem s_124_41 : Go d 124 41 L [.int x] h Q = Q (some (.int x)) h := go_ri rfl rfl
theorem s_125_0 : Go d 125 0 [some (.ref r), o1, o2] (st) h Q = Go d 125 1 [some (.ref r), o1, o2] (.ref r :: st) h Q := go_lo (E := (.aload_n 0, 0, 0, 0)) rfl rfl rfl
theorem s_125_1 : Go d 125 1 [o0, some (.int x), o2] (st) h Q = Go d 125 2 [o0, some (.int x), o2] (.int x :: st) h Q := go_lo (E := (.iload_n 1, 0, 0, 0)) rfl rfl rfl
theorem s_125_2 {a1 : Int32} : Go (d + 1) 125 2 L [.int a1, .ref 53] (HP lx xs M) Q = Go d 116 0 [some (.ref 53), some (.int a1)] [] (HP lx xs M) (fun v h2 => Go (d + 1) 125 5 L (ap v []) h2 Q) := go_cx (E := (.invokevirtual 90, 116, 0, 7)) (k' := 116) (as := [.ref 53, .int a1]) rfl rfl rfl rfl rfl rfl rfl rfl
theorem s_125_5 : Go d 125 5 L (.int x :: st) h Q = (if x = 0 then Go d 125 20 L st h Q else Go d 125 8 L st h Q) := go_ifeq rfl
theorem s_125_8 : Go d 125 8 [o0, o1, some (.int x)] (st) h Q = Go d 125 9 [o0, o1, some (.int x)] (.int x :: st) h Q := go_lo (E := (.iload_n 2, 0, 0, 0)) rfl rfl rfl
theorem s_125_9 : Go d 125 9 L (.int x :: st) h Q = Go d 125 10 L (.long (x.toInt64) :: st) h Q := go_op (E := (.i2l, 0, 0, 0)) rfl rfl
theorem s_125_10 : Go d 125 10 L (st) h Q = Go d 125 11 L (.long (lN 0) :: st) h Q := go_op (E := (.lconst 0, 0, 0, 0)) rfl rfl
theorem s_125_11 : Go d 125 11 L (st) h Q = Go d 125 14 L (.long (lN 6) :: st) h Q := go_ld2 rfl ci_l6
theorem s_125_14 {al0 : Int64} {al1 : Int64} {al2 : Int64} : Go (d + 1) 125 14 L [.long al2, .long al1, .long al0] h Q = Go d 114 0 [some (.long al0), none, some (.long al1), none, some (.long al2), none] [] h (fun v h2 => Go (d + 1) 125 17 L (ap v []) h2 Q) := go_cx (E := (.invokestatic 84, 114, 0, 0)) (k' := 114) (as := [.long al0, .long al1, .long al2]) rfl rfl rfl rfl rfl rfl rfl rfl
theorem s_125_17 : Go d 125 17 L (.int x :: st) h Q = (if x = 0 then Go d 125 20 L st h Q else Go d 125 22 L st h Q) := go_ifne rfl
theorem s_125_20 : Go d 125 20 L (st) h Q = Go d 125 21 L (.int (-1) :: st) h Q := go_ic rfl ci_im1
theorem s_125_21 : Go d 125 21 L [.int x] h Q = Q (some (.int x)) h := go_ri rfl rfl
theorem s_125_22 : Go d 125 22 [o0, o1, some (.int x)] (st) h Q = Go d 125 23 [o0, o1, some (.int x)] (.int x :: st) h Q := go_lo (E := (.iload_n 2, 0, 0, 0)) rfl rfl rfl
theorem s_125_23 : Go d 125 23 L (.int x :: st) h Q = (if x = 0 then Go d 125 26 L st h Q else Go d 125 35 L st h Q) := go_ifne rfl
theorem s_125_26 : Go d 125 26 [some (.ref r), o1, o2] (st) h Q = Go d 125 27 [some (.ref r), o1, o2] (.ref r :: st) h Q := go_lo (E := (.aload_n 0, 0, 0, 0)) rfl rfl rfl
theorem s_125_27 : Go d 125 27 L (.ref 53 :: st) (HP lx xs M) Q = Go d 125 30 L (.ref 54 :: st) (HP lx xs M) Q := go_gf rfl rfl (by decide) rfl
theorem s_125_30 : Go d 125 30 [o0, some (.int x), o2] (st) h Q = Go d 125 31 [o0, some (.int x), o2] (.int x :: st) h Q := go_lo (E := (.iload_n 1, 0, 0, 0)) rfl rfl rfl
theorem s_125_31 : Go d 125 31 L (.int x :: .ref 54 :: st) (HP lx xs M) Q = (ex_in x 6 = true ∧ Go d 125 32 L (.int (M 54 x.toNatClampNeg) :: st) (HP lx xs M) Q) := go_al rfl rfl
theorem s_125_32 : Go d 125 32 L (st) h Q = Go d 125 74 L (st) h Q := go_goto rfl
theorem s_125_35 : Go d 125 35 [o0, o1, some (.int x)] (st) h Q = Go d 125 36 [o0, o1, some (.int x)] (.int x :: st) h Q := go_lo (E := (.iload_n 2, 0, 0, 0)) rfl rfl rfl
theorem s_125_36 : Go d 125 36 L (st) h Q = Go d 125 37 L (.int (nI 1) :: st) h Q := go_ic rfl ci_i1
theorem s_125_37 : Go d 125 37 L (.int y :: .int x :: st) h Q = (if x = y then Go d 125 40 L st h Q else Go d 125 48 L st h Q) := go_icne rfl
theorem s_125_40 : Go d 125 40 [some (.ref r), o1, o2] (st) h Q = Go d 125 41 [some (.ref r), o1, o2] (.ref r :: st) h Q := go_lo (E := (.aload_n 0, 0, 0, 0)) rfl rfl rfl
theorem s_125_41 : Go d 125 41 [o0, some (.int x), o2] (st) h Q = Go d 125 42 [o0, some (.int x), o2] (.int x :: st) h Q := go_lo (E := (.iload_n 1, 0, 0, 0)) rfl rfl rfl
theorem s_125_42 {a1 : Int32} : Go (d + 1) 125 42 L [.int a1, .ref 53] (HP lx xs M) Q = Go d 124 0 [some (.ref 53), some (.int a1), none, none] [] (HP lx xs M) (fun v h2 => Go (d + 1) 125 45 L (ap v []) h2 Q) := go_cx (E := (.invokevirtual 116, 124, 0, 7)) (k' := 124) (as := [.ref 53, .int a1]) rfl rfl rfl rfl rfl rfl rfl rfl
theorem s_125_45 : Go d 125 45 L (st) h Q = Go d 125 74 L (st) h Q := go_goto rfl
theorem s_125_48 : Go d 125 48 [o0, o1, some (.int x)] (st) h Q = Go d 125 49 [o0, o1, some (.int x)] (.int x :: st) h Q := go_lo (E := (.iload_n 2, 0, 0, 0)) rfl rfl rfl
theorem s_125_49 : Go d 125 49 L (st) h Q = Go d 125 50 L (.int (nI 2) :: st) h Q := go_ic rfl ci_i2
theorem s_125_50 : Go d 125 50 L (.int y :: .int x :: st) h Q = (if x = y then Go d 125 53 L st h Q else Go d 125 62 L st h Q) := go_icne rfl
theorem s_125_53 : Go d 125 53 [some (.ref r), o1, o2] (st) h Q = Go d 125 54 [some (.ref r), o1, o2] (.ref r :: st) h Q := go_lo (E := (.aload_n 0, 0, 0, 0)) rfl rfl rfl
theorem s_125_54 : Go d 125 54 L (.ref 53 :: st) (HP lx xs M) Q = Go d 125 57 L (.ref 55 :: st) (HP lx xs M) Q := go_gf rfl rfl (by decide) rfl
theorem s_125_57 : Go d 125 57 [o0, some (.int x), o2] (st) h Q = Go d 125 58 [o0, some (.int x), o2] (.int x :: st) h Q := go_lo (E := (.iload_n 1, 0, 0, 0)) rfl rfl rfl
theorem s_125_58 : Go d 125 58 L (.int x :: .ref 55 :: st) (HP lx xs M) Q = (ex_in x 6 = true ∧ Go d 125 59 L (.int (M 55 x.toNatClampNeg) :: st) (HP lx xs M) Q) := go_al rfl rfl
theorem s_125_59 : Go d 125 59 L (st) h Q = Go d 125 74 L (st) h Q := go_goto rfl
theorem s_125_62 : Go d 125 62 [some (.ref r), o1, o2] (st) h Q = Go d 125 63 [some (.ref r), o1, o2] (.ref r :: st) h Q := go_lo (E := (.aload_n 0, 0, 0, 0)) rfl rfl rfl
theorem s_125_63 : Go d 125 63 L (.ref 53 :: st) (HP lx xs M) Q = Go d 125 66 L (.ref 56 :: st) (HP lx xs M) Q := go_gf rfl rfl (by decide) rfl
theorem s_125_66 : Go d 125 66 L (st) h Q = Go d 125 67 L (.int (nI 4) :: st) h Q := go_ic rfl ci_i4
theorem s_125_67 : Go d 125 67 [o0, some (.int x), o2] (st) h Q = Go d 125 68 [o0, some (.int x), o2] (.int x :: st) h Q := go_lo (E := (.iload_n 1, 0, 0, 0)) rfl rfl rfl
theorem s_125_68 : Go d 125 68 L (.int y :: .int x :: st) h Q = Go d 125 69 L (.int (x * y) :: st) h Q := go_op (E := (.imul, 0, 0, 0)) rfl rfl
theorem s_125_69 : Go d 125 69 [o0, o1, some (.int x)] (st) h Q = Go d 125 70 [o0, o1, some (.int x)] (.int x :: st) h Q := go_lo (E := (.iload_n 2, 0, 0, 0)) rfl rfl rfl
theorem s_125_70 : Go d 125 70 L (.int y :: .int x :: st) h Q = Go d 125 71 L (.int (x + y) :: st) h Q := go_op (E := (.iadd, 0, 0, 0)) rfl rfl
theorem s_125_71 : Go d 125 71 L (st) h Q = Go d 125 72 L (.int (nI 3) :: st) h Q := go_ic rfl ci_i3
theorem s_125_72 : Go d 125 72 L (.int y :: .int x :: st) h Q = Go d 125 73 L (.int (x - y) :: st) h Q := go_op (E := (.isub, 0, 0, 0)) rfl rfl
theorem s_125_73 : Go d 125 73 L (.int x :: .ref 56 :: st) (HP lx xs M) Q = (ex_in x 24 = true ∧ Go d 125 74 L (.int (M 56 x.toNatClampNeg) :: st) (HP lx xs M) Q) := go_al rfl rfl
theorem s_125_74 : Go d 125 74 L [.int x] h Q = Q (some (.int x)) h := go_ri rfl rfl
theorem s_126_0 : Go d 126 0 [some (.int x), o1, o2] (st) h Q = Go d 126 1 [some (.int x), o1, o2] (.int x :: st) h Q := go_lo (E := (.iload_n 0, 0, 0, 0)) rfl rfl rfl
theorem s_126_1 : Go d 126 1 L (st) h Q = Go d 126 2 L (.int (nI 2) :: st) h Q := go_ic rfl ci_i2
theorem s_126_2 : Go d 126 2 L (.int y :: .int x :: st) h Q = (if x = y then Go d 126 5 L st h Q else Go d 126 12 L st h Q) := go_icne rfl
theorem s_126_5 : Go d 126 5 L (st) h Q = Go d 126 6 L (.int (nI 2) :: st) h Q := go_ic rfl ci_i2
theorem s_126_6 : Go d 126 6 [o0, some (.int x), o2] (st) h Q = Go d 126 7 [o0, some (.int x), o2] (.int x :: st) h Q := go_lo (E := (.iload_n 1, 0, 0, 0)) rfl rfl rfl
theorem s_126_7 : Go d 126 7 L (.int y :: .int x :: st) h Q = Go d 126 8 L (.int (x * y) :: st) h Q := go_op (E := (.imul, 0, 0, 0)) rfl rfl
theorem s_126_8 : Go d 126 8 L (st) h Q = Go d 126 10 L (.int (nI 97) :: st) h Q := go_bi rfl ci_b97
theorem s_126_10 : Go d 126 10 L (.int y :: .int x :: st) h Q = (¬ y = 0 ∧ Go d 126 11 L (.int (x - x / y * y) :: st) h Q) := go_irm rfl
theorem s_126_11 : Go d 126 11 L [.int x] h Q = Q (some (.int x)) h := go_ri rfl rfl
theorem s_126_12 : Go d 126 12 [o0, some (.int x), o2] (st) h Q = Go d 126 13 [o0, some (.int x), o2] (.int x :: st) h Q := go_lo (E := (.iload_n 1, 0, 0, 0)) rfl rfl rfl
theorem s_126_13 : Go d 126 13 L (st) h Q = Go d 126 14 L (.int (nI 1) :: st) h Q := go_ic rfl ci_i1
theorem s_126_14 : Go d 126 14 L (.int y :: .int x :: st) h Q = Go d 126 15 L (.int (x + y) :: st) h Q := go_op (E := (.iadd, 0, 0, 0)) rfl rfl
theorem s_126_15 : Go d 126 15 L (st) h Q = Go d 126 17 L (.int (nI 97) :: st) h Q := go_bi rfl ci_b97
theorem s_126_17 : Go d 126 17 L (.int y :: .int x :: st) h Q = (¬ y = 0 ∧ Go d 126 18 L (.int (x - x / y * y) :: st) h Q) := go_irm rfl
theorem s_126_18 : Go d 126 18 [o0, o1, o2] (.int x :: st) h Q = Go d 126 19 [o0, o1, some (.int x)] (st) h Q := go_lo (E := (.istore_n 2, 0, 0, 0)) rfl rfl rfl
theorem s_126_19 : Go d 126 19 [some (.int x), o1, o2] (st) h Q = Go d 126 20 [some (.int x), o1, o2] (.int x :: st) h Q := go_lo (E := (.iload_n 0, 0, 0, 0)) rfl rfl rfl
theorem s_126_20 : Go d 126 20 L (st) h Q = Go d 126 21 L (.int (nI 1) :: st) h Q := go_ic rfl ci_i1
theorem s_126_21 : Go d 126 21 L (.int y :: .int x :: st) h Q = (if x = y then Go d 126 24 L st h Q else Go d 126 28 L st h Q) := go_icne rfl
theorem s_126_24 : Go d 126 24 [o0, o1, some (.int x)] (st) h Q = Go d 126 25 [o0, o1, some (.int x)] (.int x :: st) h Q := go_lo (E := (.iload_n 2, 0, 0, 0)) rfl rfl rfl
theorem s_126_25 : Go d 126 25 L (st) h Q = Go d 126 41 L (st) h Q := go_goto rfl
theorem s_126_28 : Go d 126 28 [some (.int x), o1, o2] (st) h Q = Go d 126 29 [some (.int x), o1, o2] (.int x :: st) h Q := go_lo (E := (.iload_n 0, 0, 0, 0)) rfl rfl rfl
theorem s_126_29 : Go d 126 29 L (st) h Q = Go d 126 30 L (.int (nI 3) :: st) h Q := go_ic rfl ci_i3
theorem s_126_30 : Go d 126 30 L (.int y :: .int x :: st) h Q = (if x = y then Go d 126 33 L st h Q else Go d 126 40 L st h Q) := go_icne rfl
theorem s_126_33 : Go d 126 33 L (st) h Q = Go d 126 35 L (.int (nI 96) :: st) h Q := go_bi rfl ci_b96
theorem s_126_35 : Go d 126 35 [o0, o1, some (.int x)] (st) h Q = Go d 126 36 [o0, o1, some (.int x)] (.int x :: st) h Q := go_lo (E := (.iload_n 2, 0, 0, 0)) rfl rfl rfl
theorem s_126_36 : Go d 126 36 L (.int y :: .int x :: st) h Q = Go d 126 37 L (.int (x - y) :: st) h Q := go_op (E := (.isub, 0, 0, 0)) rfl rfl
theorem s_126_37 : Go d 126 37 L (st) h Q = Go d 126 41 L (st) h Q := go_goto rfl
theorem s_126_40 : Go d 126 40 [o0, some (.int x), o2] (st) h Q = Go d 126 41 [o0, some (.int x), o2] (.int x :: st) h Q := go_lo (E := (.iload_n 1, 0, 0, 0)) rfl rfl rfl
theorem s_126_41 : Go d 126 41 L [.int x] h Q = Q (some (.int x)) h := go_ri rfl rfl
theorem s_127_0 : Go d 127 0 [some (.ref r), o1, o2] (st) h Q = Go d 127 1 [some (.ref r), o1, o2] (.ref r :: st) h Q := go_lo (E := (.aload_n 0, 0, 0, 0)) rfl rfl rfl
theorem s_127_1 : Go d 127 1 [o0, some (.int x), o2] (st) h Q = Go d 127 2 [o0, some (.int x), o2] (.int x :: st) h Q := go_lo (E := (.iload_n 1, 0, 0, 0)) rfl rfl rfl
theorem s_127_2 {a1 : Int32} : Go (d + 1) 127 2 L [.int a1, .ref 53] (HP lx xs M) Q = Go d 116 0 [some (.ref 53), some (.int a1)] [] (HP lx xs M) (fun v h2 => Go (d + 1) 127 5 L (ap v []) h2 Q) := go_cx (E := (.invokevirtual 90, 116, 0, 7)) (k' := 116) (as := [.ref 53, .int a1]) rfl rfl rfl rfl rfl rfl rfl rfl
theorem s_127_5 : Go d 127 5 L (.int x :: st) h Q = (if x = 0 then Go d 127 33 L st h Q else Go d 127 8 L st h Q) := go_ifeq rfl
theorem s_127_8 : Go d 127 8 [o0, o1, some (.int x)] (st) h Q = Go d 127 9 [o0, o1, some (.int x)] (.int x :: st) h Q := go_lo (E := (.iload_n 2, 0, 0, 0)) rfl rfl rfl
theorem s_127_9 : Go d 127 9 L (.int x :: st) h Q = Go d 127 10 L (.long (x.toInt64) :: st) h Q := go_op (E := (.i2l, 0, 0, 0)) rfl rfl
theorem s_127_10 : Go d 127 10 L (st) h Q = Go d 127 11 L (.long (lN 0) :: st) h Q := go_op (E := (.lconst 0, 0, 0, 0)) rfl rfl
theorem s_127_11 : Go d 127 11 L (st) h Q = Go d 127 14 L (.long (lN 96) :: st) h Q := go_ld2 rfl ci_l96
theorem s_127_14 {al0 : Int64} {al1 : Int64} {al2 : Int64} : Go (d + 1) 127 14 L [.long al2, .long al1, .long al0] h Q = Go d 114 0 [some (.long al0), none, some (.long al1), none, some (.long al2), none] [] h (fun v h2 => Go (d + 1) 127 17 L (ap v []) h2 Q) := go_cx (E := (.invokestatic 84, 114, 0, 0)) (k' := 114) (as := [.long al0, .long al1, .long al2]) rfl rfl rfl rfl rfl rfl rfl rfl
theorem s_127_17 : Go d 127 17 L (.int x :: st) h Q = (if x = 0 then Go d 127 33 L st h Q else Go d 127 20 L st h Q) := go_ifeq rfl
theorem s_127_20 : Go d 127 20 [some (.ref r), o1, o2] (st) h Q = Go d 127 21 [some (.ref r), o1, o2] (.ref r :: st) h Q := go_lo (E := (.aload_n 0, 0, 0, 0)) rfl rfl rfl
theorem s_127_21 : Go d 127 21 L (.ref 53 :: st) (HP lx xs M) Q = Go d 127 24 L (.ref 54 :: st) (HP lx xs M) Q := go_gf rfl rfl (by decide) rfl
theorem s_127_24 : Go d 127 24 [o0, some (.int x), o2] (st) h Q = Go d 127 25 [o0, some (.int x), o2] (.int x :: st) h Q := go_lo (E := (.iload_n 1, 0, 0, 0)) rfl rfl rfl
theorem s_127_25 : Go d 127 25 L (.int x :: .ref 54 :: st) (HP lx xs M) Q = (ex_in x 6 = true ∧ Go d 127 26 L (.int (M 54 x.toNatClampNeg) :: st) (HP lx xs M) Q) := go_al rfl rfl
theorem s_127_26 : Go d 127 26 [o0, o1, some (.int x)] (st) h Q = Go d 127 27 [o0, o1, some (.int x)] (.int x :: st) h Q := go_lo (E := (.iload_n 2, 0, 0, 0)) rfl rfl rfl
theorem s_127_27 {a0 : Int32} {a1 : Int32} : Go (d + 1) 127 27 L [.int a1, .int a0] h Q = Go d 126 0 [some (.int a0), some (.int a1), none] [] h (fun v h2 => Go (d + 1) 127 30 L (ap v []) h2 Q) := go_cx (E := (.invokestatic 120, 126, 0, 0)) (k' := 126) (as := [.int a0, .int a1]) rfl rfl rfl rfl rfl rfl rfl rfl
theorem s_127_30 : Go d 127 30 L (st) h Q = Go d 127 34 L (st) h Q := go_goto rfl
theorem s_127_33 : Go d 127 33 L (st) h Q = Go d 127 34 L (.int (-1) :: st) h Q := go_ic rfl ci_im1
theorem s_127_34 : Go d 127 34 L [.int x] h Q = Q (some (.int x)) h := go_ri rfl rfl
theorem s_128_0 : Go d 128 0 L (st) h Q = Go d 128 1 L (.int (nI 0) :: st) h Q := go_ic rfl ci_i0
theorem s_128_1 : Go d 128 1 [o0, o1, o2, o3, o4] (.int x :: st) h Q = Go d 128 2 [o0, o1, some (.int x), o3, o4] (st) h Q := go_lo (E := (.istore_n 2, 0, 0, 0)) rfl rfl rfl
theorem s_128_2 : Go d 128 2 L (st) h Q = Go d 128 3 L (.int (nI 0) :: st) h Q := go_ic rfl ci_i0
theorem s_128_3 : Go d 128 3 [o0, o1, o2, o3, o4] (.int x :: st) h Q = Go d 128 4 [o0, o1, o2, some (.int x), o4] (st) h Q := go_lo (E := (.istore_n 3, 0, 0, 0)) rfl rfl rfl
theorem s_128_4 : Go d 128 4 L (st) h Q = Go d 128 5 L (.int (nI 0) :: st) h Q := go_ic rfl ci_i0
theorem s_128_5 : Go d 128 5 [o0, o1, o2, o3, o4] (.int x :: st) h Q = Go d 128 7 [o0, o1, o2, o3, some (.int x)] (st) h Q := go_lo (E := (.istore 4, 0, 0, 0)) rfl rfl rfl
theorem s_128_7 : Go d 128 7 [o0, o1, o2, o3, some (.int x)] (st) h Q = Go d 128 9 [o0, o1, o2, o3, some (.int x)] (.int x :: st) h Q := go_lo (E := (.iload 4, 0, 0, 0)) rfl rfl rfl
theorem s_128_9 : Go d 128 9 L (st) h Q = Go d 128 10 L (.int (nI 4) :: st) h Q := go_ic rfl ci_i4
theorem s_128_10 : Go d 128 10 [some (.ref r), o1, o2, o3, o4] (st) h Q = Go d 128 11 [some (.ref r), o1, o2, o3, o4] (.ref r :: st) h Q := go_lo (E := (.aload_n 0, 0, 0, 0)) rfl rfl rfl
theorem s_128_11 : Go d 128 11 L (.ref 53 :: st) (HP lx xs M) Q = Go d 128 14 L (.int (M 53 4) :: st) (HP lx xs M) Q := go_gf rfl rfl (by decide) rfl
theorem s_128_14 : Go d 128 14 L (.int y :: .int x :: st) h Q = Go d 128 15 L (.int (x * y) :: st) h Q := go_op (E := (.imul, 0, 0, 0)) rfl rfl
theorem s_128_15 : Go d 128 15 L (.int y :: .int x :: st) h Q = (if x < y then Go d 128 18 L st h Q else Go d 128 74 L st h Q) := go_icge rfl
theorem s_128_18 : Go d 128 18 [o0, o1, some (.int x), o3, o4] (st) h Q = Go d 128 19 [o0, o1, some (.int x), o3, o4] (.int x :: st) h Q := go_lo (E := (.iload_n 2, 0, 0, 0)) rfl rfl rfl
theorem s_128_19 : Go d 128 19 [some (.ref r), o1, o2, o3, o4] (st) h Q = Go d 128 20 [some (.ref r), o1, o2, o3, o4] (.ref r :: st) h Q := go_lo (E := (.aload_n 0, 0, 0, 0)) rfl rfl rfl
theorem s_128_20 : Go d 128 20 L (.ref 53 :: st) (HP lx xs M) Q = Go d 128 23 L (.ref 56 :: st) (HP lx xs M) Q := go_gf rfl rfl (by decide) rfl
theorem s_128_23 : Go d 128 23 [o0, o1, o2, o3, some (.int x)] (st) h Q = Go d 128 25 [o0, o1, o2, o3, some (.int x)] (.int x :: st) h Q := go_lo (E := (.iload 4, 0, 0, 0)) rfl rfl rfl
theorem s_128_25 : Go d 128 25 L (.int x :: .ref 56 :: st) (HP lx xs M) Q = (ex_in x 24 = true ∧ Go d 128 26 L (.int (M 56 x.toNatClampNeg) :: st) (HP lx xs M) Q) := go_al rfl rfl
theorem s_128_26 : Go d 128 26 L (st) h Q = Go d 128 28 L (.int (nI 97) :: st) h Q := go_bi rfl ci_b97
theorem s_128_28 : Go d 128 28 L (.int y :: .int x :: st) h Q = (if x < y then Go d 128 31 L st h Q else Go d 128 35 L st h Q) := go_icge rfl
theorem s_128_31 : Go d 128 31 L (st) h Q = Go d 128 32 L (.int (nI 1) :: st) h Q := go_ic rfl ci_i1
theorem s_128_32 : Go d 128 32 L (st) h Q = Go d 128 36 L (st) h Q := go_goto rfl
theorem s_128_35 : Go d 128 35 L (st) h Q = Go d 128 36 L (.int (nI 0) :: st) h Q := go_ic rfl ci_i0
theorem s_128_36 : Go d 128 36 L (.int y :: .int x :: st) h Q = Go d 128 37 L (.int (x + y) :: st) h Q := go_op (E := (.iadd, 0, 0, 0)) rfl rfl
theorem s_128_37 : Go d 128 37 [o0, o1, o2, o3, o4] (.int x :: st) h Q = Go d 128 38 [o0, o1, some (.int x), o3, o4] (st) h Q := go_lo (E := (.istore_n 2, 0, 0, 0)) rfl rfl rfl
theorem s_128_38 : Go d 128 38 [o0, o1, o2, some (.int x), o4] (st) h Q = Go d 128 39 [o0, o1, o2, some (.int x), o4] (.int x :: st) h Q := go_lo (E := (.iload_n 3, 0, 0, 0)) rfl rfl rfl
theorem s_128_39 : Go d 128 39 [some (.ref r), o1, o2, o3, o4] (st) h Q = Go d 128 40 [some (.ref r), o1, o2, o3, o4] (.ref r :: st) h Q := go_lo (E := (.aload_n 0, 0, 0, 0)) rfl rfl rfl
theorem s_128_40 : Go d 128 40 L (.ref 53 :: st) (HP lx xs M) Q = Go d 128 43 L (.ref 56 :: st) (HP lx xs M) Q := go_gf rfl rfl (by decide) rfl
theorem s_128_43 : Go d 128 43 [o0, o1, o2, o3, some (.int x)] (st) h Q = Go d 128 45 [o0, o1, o2, o3, some (.int x)] (.int x :: st) h Q := go_lo (E := (.iload 4, 0, 0, 0)) rfl rfl rfl
theorem s_128_45 : Go d 128 45 L (.int x :: .ref 56 :: st) (HP lx xs M) Q = (ex_in x 24 = true ∧ Go d 128 46 L (.int (M 56 x.toNatClampNeg) :: st) (HP lx xs M) Q) := go_al rfl rfl
theorem s_128_46 : Go d 128 46 L (st) h Q = Go d 128 48 L (.int (nI 97) :: st) h Q := go_bi rfl ci_b97
theorem s_128_48 : Go d 128 48 L (.int y :: .int x :: st) h Q = (if x < y then Go d 128 51 L st h Q else Go d 128 65 L st h Q) := go_icge rfl
theorem s_128_51 : Go d 128 51 [some (.ref r), o1, o2, o3, o4] (st) h Q = Go d 128 52 [some (.ref r), o1, o2, o3, o4] (.ref r :: st) h Q := go_lo (E := (.aload_n 0, 0, 0, 0)) rfl rfl rfl
theorem s_128_52 : Go d 128 52 L (.ref 53 :: st) (HP lx xs M) Q = Go d 128 55 L (.ref 56 :: st) (HP lx xs M) Q := go_gf rfl rfl (by decide) rfl
theorem s_128_55 : Go d 128 55 [o0, o1, o2, o3, some (.int x)] (st) h Q = Go d 128 57 [o0, o1, o2, o3, some (.int x)] (.int x :: st) h Q := go_lo (E := (.iload 4, 0, 0, 0)) rfl rfl rfl
theorem s_128_57 : Go d 128 57 L (.int x :: .ref 56 :: st) (HP lx xs M) Q = (ex_in x 24 = true ∧ Go d 128 58 L (.int (M 56 x.toNatClampNeg) :: st) (HP lx xs M) Q) := go_al rfl rfl
theorem s_128_58 : Go d 128 58 L (.int x :: st) h Q = (if 0 < x then Go d 128 61 L st h Q else Go d 128 65 L st h Q) := go_ifle rfl
theorem s_128_61 : Go d 128 61 L (st) h Q = Go d 128 62 L (.int (nI 1) :: st) h Q := go_ic rfl ci_i1
theorem s_128_62 : Go d 128 62 L (st) h Q = Go d 128 66 L (st) h Q := go_goto rfl
theorem s_128_65 : Go d 128 65 L (st) h Q = Go d 128 66 L (.int (nI 0) :: st) h Q := go_ic rfl ci_i0
theorem s_128_66 : Go d 128 66 L (.int y :: .int x :: st) h Q = Go d 128 67 L (.int (x + y) :: st) h Q := go_op (E := (.iadd, 0, 0, 0)) rfl rfl
theorem s_128_67 : Go d 128 67 [o0, o1, o2, o3, o4] (.int x :: st) h Q = Go d 128 68 [o0, o1, o2, some (.int x), o4] (st) h Q := go_lo (E := (.istore_n 3, 0, 0, 0)) rfl rfl rfl
theorem s_128_68 : Go d 128 68 [o0, o1, o2, o3, some (.int x)] (st) h Q = Go d 128 71 [o0, o1, o2, o3, some (.int (x + nI 1))] (st) h Q := (ci_i1 ▸ go_lo (E := (.iinc 4 1, 0, 0, 0)) rfl rfl rfl : _ = Go d 128 71 [o0, o1, o2, o3, some (.int (x + nI 1))] (st) h Q)
theorem s_128_71 : Go d 128 71 L (st) h Q = Go d 128 7 L (st) h Q := go_goto rfl
theorem s_128_74 : Go d 128 74 [o0, some (.int x), o2, o3, o4] (st) h Q = Go d 128 75 [o0, some (.int x), o2, o3, o4] (.int x :: st) h Q := go_lo (E := (.iload_n 1, 0, 0, 0)) rfl rfl rfl
theorem s_128_75_0 : Go d 128 75 L (.int (nI 0) :: st) h Q = Go d 128 112 L (st) h Q := go_ts (i := 0) (off := 37) rfl (by decide +kernel) (by decide +kernel) rfl (by decide +kernel)
theorem s_128_75_1 : Go d 128 75 L (.int (nI 1) :: st) h Q = Go d 128 117 L (st) h Q := go_ts (i := 1) (off := 42) rfl (by decide +kernel) (by decide +kernel) rfl (by decide +kernel)
theorem s_128_75_2 : Go d 128 75 L (.int (nI 2) :: st) h Q = Go d 128 122 L (st) h Q := go_ts (i := 2) (off := 47) rfl (by decide +kernel) (by decide +kernel) rfl (by decide +kernel)
theorem s_128_75_3 : Go d 128 75 L (.int (nI 3) :: st) h Q = Go d 128 127 L (st) h Q := go_ts (i := 3) (off := 52) rfl (by decide +kernel) (by decide +kernel) rfl (by decide +kernel)
theorem s_128_75_4 : Go d 128 75 L (.int (nI 4) :: st) h Q = Go d 128 154 L (st) h Q := go_ts (i := 4) (off := 79) rfl (by decide +kernel) (by decide +kernel) rfl (by decide +kernel)
theorem s_128_75_5 : Go d 128 75 L (.int (nI 5) :: st) h Q = Go d 128 156 L (st) h Q := go_ts (i := 5) (off := 81) rfl (by decide +kernel) (by decide +kernel) rfl (by decide +kernel)
theorem s_128_75_6 : Go d 128 75 L (.int (nI 6) :: st) h Q = Go d 128 158 L (st) h Q := go_td rfl (by decide +kernel) (by decide +kernel)
theorem s_128_75_7 : Go d 128 75 L (.int (nI 7) :: st) h Q = Go d 128 158 L (st) h Q := go_td rfl (by decide +kernel) (by decide +kernel)
theorem s_128_75_8 : Go d 128 75 L (.int (nI 8) :: st) h Q = Go d 128 158 L (st) h Q := go_td rfl (by decide +kernel) (by decide +kernel)
theorem s_128_75_9 : Go d 128 75 L (.int (nI 9) :: st) h Q = Go d 128 158 L (st) h Q := go_td rfl (by decide +kernel) (by decide +kernel)
theorem s_128_75_10 : Go d 128 75 L (.int (nI 10) :: st) h Q = Go d 128 158 L (st) h Q := go_td rfl (by decide +kernel) (by decide +kernel)
theorem s_128_75_11 : Go d 128 75 L (.int (nI 11) :: st) h Q = Go d 128 158 L (st) h Q := go_td rfl (by decide +kernel) (by decide +kernel)
theorem sd_128_75 (hx : x.toInt < 0 ∨ 5 < x.toInt) : Go d 128 75 L (.int x :: st) h Q = Go d 128 158 L st h Q := go_td rfl hx (by decide +kernel)
theorem s_128_112 : Go d 128 112 [some (.ref r), o1, o2, o3, o4] (st) h Q = Go d 128 113 [some (.ref r), o1, o2, o3, o4] (.ref r :: st) h Q := go_lo (E := (.aload_n 0, 0, 0, 0)) rfl rfl rfl
theorem s_128_113 : Go d 128 113 L (.ref 53 :: st) (HP lx xs M) Q = Go d 128 116 L (.int (M 53 4) :: st) (HP lx xs M) Q := go_gf rfl rfl (by decide) rfl
theorem s_128_116 : Go d 128 116 L [.int x] h Q = Q (some (.int x)) h := go_ri rfl rfl
theorem s_128_117 : Go d 128 117 [some (.ref r), o1, o2, o3, o4] (st) h Q = Go d 128 118 [some (.ref r), o1, o2, o3, o4] (.ref r :: st) h Q := go_lo (E := (.aload_n 0, 0, 0, 0)) rfl rfl rfl
theorem s_128_118 : Go d 128 118 L (.ref 53 :: st) (HP lx xs M) Q = Go d 128 121 L (.int (M 53 7) :: st) (HP lx xs M) Q := go_gf rfl rfl (by decide) rfl
theorem s_128_121 : Go d 128 121 L [.int x] h Q = Q (some (.int x)) h := go_ri rfl rfl
theorem s_128_122 : Go d 128 122 [some (.ref r), o1, o2, o3, o4] (st) h Q = Go d 128 123 [some (.ref r), o1, o2, o3, o4] (.ref r :: st) h Q := go_lo (E := (.aload_n 0, 0, 0, 0)) rfl rfl rfl
theorem s_128_123 : Go d 128 123 L (.ref 53 :: st) (HP lx xs M) Q = Go d 128 126 L (.int (M 53 6) :: st) (HP lx xs M) Q := go_gf rfl rfl (by decide) rfl
theorem s_128_126 : Go d 128 126 L [.int x] h Q = Q (some (.int x)) h := go_ri rfl rfl
theorem s_128_127 : Go d 128 127 [some (.ref r), o1, o2, o3, o4] (st) h Q = Go d 128 128 [some (.ref r), o1, o2, o3, o4] (.ref r :: st) h Q := go_lo (E := (.aload_n 0, 0, 0, 0)) rfl rfl rfl
theorem s_128_128 : Go d 128 128 L (.ref 53 :: st) (HP lx xs M) Q = Go d 128 131 L (.int (M 53 6) :: st) (HP lx xs M) Q := go_gf rfl rfl (by decide) rfl
theorem s_128_131 : Go d 128 131 L (.int x :: st) h Q = (if x = 0 then Go d 128 134 L st h Q else Go d 128 138 L st h Q) := go_ifne rfl
theorem s_128_134 : Go d 128 134 L (st) h Q = Go d 128 135 L (.int (nI 0) :: st) h Q := go_ic rfl ci_i0
theorem s_128_135 : Go d 128 135 L (st) h Q = Go d 128 153 L (st) h Q := go_goto rfl
theorem s_128_138 : Go d 128 138 [some (.ref r), o1, o2, o3, o4] (st) h Q = Go d 128 139 [some (.ref r), o1, o2, o3, o4] (.ref r :: st) h Q := go_lo (E := (.aload_n 0, 0, 0, 0)) rfl rfl rfl
theorem s_128_139 : Go d 128 139 L (.ref 53 :: st) (HP lx xs M) Q = Go d 128 142 L (.ref 58 :: st) (HP lx xs M) Q := go_gf rfl rfl (by decide) rfl
theorem s_128_142 : Go d 128 142 L (st) h Q = Go d 128 143 L (.int (nI 4) :: st) h Q := go_ic rfl ci_i4
theorem s_128_143 : Go d 128 143 [some (.ref r), o1, o2, o3, o4] (st) h Q = Go d 128 144 [some (.ref r), o1, o2, o3, o4] (.ref r :: st) h Q := go_lo (E := (.aload_n 0, 0, 0, 0)) rfl rfl rfl
theorem s_128_144 : Go d 128 144 L (.ref 53 :: st) (HP lx xs M) Q = Go d 128 147 L (.int (M 53 6) :: st) (HP lx xs M) Q := go_gf rfl rfl (by decide) rfl
theorem s_128_147 : Go d 128 147 L (.int y :: .int x :: st) h Q = Go d 128 148 L (.int (x * y) :: st) h Q := go_op (E := (.imul, 0, 0, 0)) rfl rfl
theorem s_128_148 : Go d 128 148 L (st) h Q = Go d 128 149 L (.int (nI 1) :: st) h Q := go_ic rfl ci_i1
theorem s_128_149 : Go d 128 149 L (.int y :: .int x :: st) h Q = Go d 128 150 L (.int (x - y) :: st) h Q := go_op (E := (.isub, 0, 0, 0)) rfl rfl
theorem s_128_150 : Go d 128 150 L (.int x :: .ref 58 :: st) (HP lx xs M) Q = (ex_in x 96 = true ∧ Go d 128 151 L (.int (M 58 x.toNatClampNeg) :: st) (HP lx xs M) Q) := go_al rfl rfl
theorem s_128_151 : Go d 128 151 L (st) h Q = Go d 128 152 L (.int (nI 1) :: st) h Q := go_ic rfl ci_i1
theorem s_128_152 : Go d 128 152 L (.int y :: .int x :: st) h Q = Go d 128 153 L (.int (x + y) :: st) h Q := go_op (E := (.iadd, 0, 0, 0)) rfl rfl
theorem s_128_153 : Go d 128 153 L [.int x] h Q = Q (some (.int x)) h := go_ri rfl rfl
theorem s_128_154 : Go d 128 154 [o0, o1, some (.int x), o3, o4] (st) h Q = Go d 128 155 [o0, o1, some (.int x), o3, o4] (.int x :: st) h Q := go_lo (E := (.iload_n 2, 0, 0, 0)) rfl rfl rfl
theorem s_128_155 : Go d 128 155 L [.int x] h Q = Q (some (.int x)) h := go_ri rfl rfl
theorem s_128_156 : Go d 128 156 [o0, o1, o2, some (.int x), o4] (st) h Q = Go d 128 157 [o0, o1, o2, some (.int x), o4] (.int x :: st) h Q := go_lo (E := (.iload_n 3, 0, 0, 0)) rfl rfl rfl
theorem s_128_157 : Go d 128 157 L [.int x] h Q = Q (some (.int x)) h := go_ri rfl rfl
theorem s_128_158 : Go d 128 158 L (st) h Q = Go d 128 159 L (.int (-1) :: st) h Q := go_ic rfl ci_im1
theorem s_128_159 : Go d 128 159 L [.int x] h Q = Q (some (.int x)) h := go_ri rfl rfl
theorem s_129_0 : Go d 129 0 [o0, o1, o2, some (.int x), o4] (st) h Q = Go d 129 1 [o0, o1, o2, some (.int x), o4] (.int x :: st) h Q := go_lo (E := (.iload_n 3, 0, 0, 0)) rfl rfl rfl
theorem s_129_1 : Go d 129 1 L (.int x :: st) h Q = Go d 129 2 L (.long (x.toInt64) :: st) h Q := go_op (E := (.i2l, 0, 0, 0)) rfl rfl
theorem s_129_2 : Go d 129 2 L (st) h Q = Go d 129 3 L (.long (lN 1) :: st) h Q := go_op (E := (.lconst 1, 0, 0, 0)) rfl rfl
theorem s_129_3 : Go d 129 3 L (st) h Q = Go d 129 6 L (.long (lN 8) :: st) h Q := go_ld2 rfl ci_l8
theorem s_129_6 {al0 : Int64} {al1 : Int64} {al2 : Int64} : Go (d + 1) 129 6 L [.long al2, .long al1, .long al0] h Q = Go d 114 0 [some (.long al0), none, some (.long al1), none, some (.long al2), none] [] h (fun v h2 => Go (d + 1) 129 9 L (ap v []) h2 Q) := go_cx (E := (.invokestatic 84, 114, 0, 0)) (k' := 114) (as := [.long al0, .long al1, .long al2]) rfl rfl rfl rfl rfl rfl rfl rfl
theorem s_129_9 : Go d 129 9 L (.int x :: st) h Q = (if x = 0 then Go d 129 12 L st h Q else Go d 129 14 L st h Q) := go_ifne rfl
theorem s_129_12 : Go d 129 12 L (st) h Q = Go d 129 13 L (.int (-1) :: st) h Q := go_ic rfl ci_im1
theorem s_129_13 : Go d 129 13 L [.int x] h Q = Q (some (.int x)) h := go_ri rfl rfl
theorem s_129_14 : Go d 129 14 [o0, o1, o2, some (.int x), o4] (st) h Q = Go d 129 15 [o0, o1, o2, some (.int x), o4] (.int x :: st) h Q := go_lo (E := (.iload_n 3, 0, 0, 0)) rfl rfl rfl
theorem s_129_15 : Go d 129 15 L (st) h Q = Go d 129 16 L (.int (nI 1) :: st) h Q := go_ic rfl ci_i1
theorem s_129_16 : Go d 129 16 L (.int y :: .int x :: st) h Q = Go d 129 17 L (.int (x - y) :: st) h Q := go_op (E := (.isub, 0, 0, 0)) rfl rfl
theorem s_129_17 : Go d 129 17 [o0, o1, o2, o3, o4] (.int x :: st) h Q = Go d 129 19 [o0, o1, o2, o3, some (.int x)] (st) h Q := go_lo (E := (.istore 4, 0, 0, 0)) rfl rfl rfl
theorem s_129_19 : Go d 129 19 [o0, o1, o2, o3, some (.int x)] (st) h Q = Go d 129 21 [o0, o1, o2, o3, some (.int x)] (.int x :: st) h Q := go_lo (E := (.iload 4, 0, 0, 0)) rfl rfl rfl
theorem s_129_21 : Go d 129 21 L (.int x :: st) h Q = (if x < 0 then Go d 129 55 L st h Q else Go d 129 24 L st h Q) := go_iflt rfl
theorem s_129_24 : Go d 129 24 [o0, some (.long u), o2, o3, o4] (st) h Q = Go d 129 25 [o0, some (.long u), o2, o3, o4] (.long u :: st) h Q := go_lo (E := (.lload_n 1, 0, 0, 0)) rfl rfl rfl
theorem s_129_25 : Go d 129 25 L (st) h Q = Go d 129 27 L (.int (nI 8) :: st) h Q := go_bi rfl ci_b8
theorem s_129_27 : Go d 129 27 [o0, o1, o2, o3, some (.int x)] (st) h Q = Go d 129 29 [o0, o1, o2, o3, some (.int x)] (.int x :: st) h Q := go_lo (E := (.iload 4, 0, 0, 0)) rfl rfl rfl
theorem s_129_29 : Go d 129 29 L (.int y :: .int x :: st) h Q = Go d 129 30 L (.int (x * y) :: st) h Q := go_op (E := (.imul, 0, 0, 0)) rfl rfl
theorem s_129_30 : Go d 129 30 L (.int y :: .long u :: st) h Q = Go d 129 31 L (.long (u >>> (y.toInt64 &&& 63)) :: st) h Q := go_op (E := (.lshr, 0, 0, 0)) rfl rfl
theorem s_129_31 : Go d 129 31 L (st) h Q = Go d 129 34 L (.long (lN 255) :: st) h Q := go_ld2 rfl ci_l255
theorem s_129_34 : Go d 129 34 L (.long w :: .long u :: st) h Q = Go d 129 35 L (.long (u &&& w) :: st) h Q := go_op (E := (.land, 0, 0, 0)) rfl rfl
theorem s_129_35 : Go d 129 35 L (st) h Q = Go d 129 38 L (.long (lN 32) :: st) h Q := go_ld2 rfl ci_l32
theorem s_129_38 : Go d 129 38 L (st) h Q = Go d 129 41 L (.long (lN 126) :: st) h Q := go_ld2 rfl ci_l126
theorem s_129_41 {al0 : Int64} {al1 : Int64} {al2 : Int64} : Go (d + 1) 129 41 L [.long al2, .long al1, .long al0] h Q = Go d 114 0 [some (.long al0), none, some (.long al1), none, some (.long al2), none] [] h (fun v h2 => Go (d + 1) 129 44 L (ap v []) h2 Q) := go_cx (E := (.invokestatic 84, 114, 0, 0)) (k' := 114) (as := [.long al0, .long al1, .long al2]) rfl rfl rfl rfl rfl rfl rfl rfl
theorem s_129_44 : Go d 129 44 L (.int x :: st) h Q = (if x = 0 then Go d 129 47 L st h Q else Go d 129 49 L st h Q) := go_ifne rfl
theorem s_129_47 : Go d 129 47 L (st) h Q = Go d 129 48 L (.int (-1) :: st) h Q := go_ic rfl ci_im1
theorem s_129_48 : Go d 129 48 L [.int x] h Q = Q (some (.int x)) h := go_ri rfl rfl
theorem s_129_49 : Go d 129 49 [o0, o1, o2, o3, some (.int x)] (st) h Q = Go d 129 52 [o0, o1, o2, o3, some (.int (x + -1))] (st) h Q := (ci_im1 ▸ go_lo (E := (.iinc 4 (-1), 0, 0, 0)) rfl rfl rfl : _ = Go d 129 52 [o0, o1, o2, o3, some (.int (x + -1))] (st) h Q)
theorem s_129_52 : Go d 129 52 L (st) h Q = Go d 129 19 L (st) h Q := go_goto rfl
theorem s_129_55 : Go d 129 55 [some (.ref r), o1, o2, o3, o4] (st) h Q = Go d 129 56 [some (.ref r), o1, o2, o3, o4] (.ref r :: st) h Q := go_lo (E := (.aload_n 0, 0, 0, 0)) rfl rfl rfl
theorem s_129_56 : Go d 129 56 L (.ref 53 :: st) (HP lx xs M) Q = Go d 129 59 L (.int (M 53 10) :: st) (HP lx xs M) Q := go_gf rfl rfl (by decide) rfl
theorem s_129_59 : Go d 129 59 [o0, o1, o2, some (.int x), o4] (st) h Q = Go d 129 60 [o0, o1, o2, some (.int x), o4] (.int x :: st) h Q := go_lo (E := (.iload_n 3, 0, 0, 0)) rfl rfl rfl
theorem s_129_60 : Go d 129 60 L (.int y :: .int x :: st) h Q = Go d 129 61 L (.int (x + y) :: st) h Q := go_op (E := (.iadd, 0, 0, 0)) rfl rfl
theorem s_129_61 : Go d 129 61 L (st) h Q = Go d 129 64 L (.int (nI 160) :: st) h Q := go_si rfl ci_s160
theorem s_129_64 : Go d 129 64 L (.int y :: .int x :: st) h Q = (if y < x then Go d 129 67 L st h Q else Go d 129 70 L st h Q) := go_icle rfl
theorem s_129_67 : Go d 129 67 L (st) h Q = Go d 129 69 L (.int (-3) :: st) h Q := go_bi rfl ci_bm3
theorem s_129_69 : Go d 129 69 L [.int x] h Q = Q (some (.int x)) h := go_ri rfl rfl
theorem s_129_70 : Go d 129 70 [o0, o1, o2, some (.int x), o4] (st) h Q = Go d 129 71 [o0, o1, o2, some (.int x), o4] (.int x :: st) h Q := go_lo (E := (.iload_n 3, 0, 0, 0)) rfl rfl rfl
theorem s_129_71 : Go d 129 71 L (st) h Q = Go d 129 72 L (.int (nI 1) :: st) h Q := go_ic rfl ci_i1
theorem s_129_72 : Go d 129 72 L (.int y :: .int x :: st) h Q = Go d 129 73 L (.int (x - y) :: st) h Q := go_op (E := (.isub, 0, 0, 0)) rfl rfl
theorem s_129_73 : Go d 129 73 [o0, o1, o2, o3, o4] (.int x :: st) h Q = Go d 129 75 [o0, o1, o2, o3, some (.int x)] (st) h Q := go_lo (E := (.istore 4, 0, 0, 0)) rfl rfl rfl
theorem s_129_75 : Go d 129 75 [o0, o1, o2, o3, some (.int x)] (st) h Q = Go d 129 77 [o0, o1, o2, o3, some (.int x)] (.int x :: st) h Q := go_lo (E := (.iload 4, 0, 0, 0)) rfl rfl rfl
theorem s_129_77 : Go d 129 77 L (.int x :: st) h Q = (if x < 0 then Go d 129 117 L st h Q else Go d 129 80 L st h Q) := go_iflt rfl
theorem s_129_80 : Go d 129 80 [some (.ref r), o1, o2, o3, o4] (st) h Q = Go d 129 81 [some (.ref r), o1, o2, o3, o4] (.ref r :: st) h Q := go_lo (E := (.aload_n 0, 0, 0, 0)) rfl rfl rfl
theorem s_129_81 : Go d 129 81 L (.ref 53 :: st) (HP lx xs M) Q = Go d 129 84 L (.ref 59 :: st) (HP lx xs M) Q := go_gf rfl rfl (by decide) rfl
theorem s_129_84 : Go d 129 84 [some (.ref r), o1, o2, o3, o4] (st) h Q = Go d 129 85 [some (.ref r), o1, o2, o3, o4] (.ref r :: st) h Q := go_lo (E := (.aload_n 0, 0, 0, 0)) rfl rfl rfl
theorem s_129_85 : Go d 129 85 L (.ref 53 :: st) (HP lx xs M) Q = Go d 129 88 L (.int (M 53 10) :: st) (HP lx xs M) Q := go_gf rfl rfl (by decide) rfl
theorem s_129_88 : Go d 129 88 [o0, some (.long u), o2, o3, o4] (st) h Q = Go d 129 89 [o0, some (.long u), o2, o3, o4] (.long u :: st) h Q := go_lo (E := (.lload_n 1, 0, 0, 0)) rfl rfl rfl
theorem s_129_89 : Go d 129 89 L (st) h Q = Go d 129 91 L (.int (nI 8) :: st) h Q := go_bi rfl ci_b8
theorem s_129_91 : Go d 129 91 [o0, o1, o2, o3, some (.int x)] (st) h Q = Go d 129 93 [o0, o1, o2, o3, some (.int x)] (.int x :: st) h Q := go_lo (E := (.iload 4, 0, 0, 0)) rfl rfl rfl
theorem s_129_93 : Go d 129 93 L (.int y :: .int x :: st) h Q = Go d 129 94 L (.int (x * y) :: st) h Q := go_op (E := (.imul, 0, 0, 0)) rfl rfl
theorem s_129_94 : Go d 129 94 L (.int y :: .long u :: st) h Q = Go d 129 95 L (.long (u >>> (y.toInt64 &&& 63)) :: st) h Q := go_op (E := (.lshr, 0, 0, 0)) rfl rfl
theorem s_129_95 : Go d 129 95 L (st) h Q = Go d 129 98 L (.long (lN 255) :: st) h Q := go_ld2 rfl ci_l255
theorem s_129_98 : Go d 129 98 L (.long w :: .long u :: st) h Q = Go d 129 99 L (.long (u &&& w) :: st) h Q := go_op (E := (.land, 0, 0, 0)) rfl rfl
theorem s_129_99 : Go d 129 99 L (.long u :: st) h Q = Go d 129 100 L (.int (u.toInt32) :: st) h Q := go_op (E := (.l2i, 0, 0, 0)) rfl rfl
theorem s_129_100 : Go d 129 100 L (.int y :: .int x :: .ref 59 :: st) (HP lx xs M) Q = (ex_in x 160 = true ∧ Go d 129 101 L (st) (HP lx xs (up M 59 x.toNatClampNeg y)) Q) := go_as rfl rfl (by decide) hs_59
theorem s_129_101 : Go d 129 101 [some (.ref r), o1, o2, o3, o4] (st) h Q = Go d 129 102 [some (.ref r), o1, o2, o3, o4] (.ref r :: st) h Q := go_lo (E := (.aload_n 0, 0, 0, 0)) rfl rfl rfl
theorem s_129_102 : Go d 129 102 L (.ref r :: st) h Q = Go d 129 103 L (.ref r :: .ref r :: st) h Q := go_op (E := (.dup, 0, 0, 0)) rfl rfl
theorem s_129_103 : Go d 129 103 L (.ref 53 :: st) (HP lx xs M) Q = Go d 129 106 L (.int (M 53 10) :: st) (HP lx xs M) Q := go_gf rfl rfl (by decide) rfl
theorem s_129_106 : Go d 129 106 L (st) h Q = Go d 129 107 L (.int (nI 1) :: st) h Q := go_ic rfl ci_i1
theorem s_129_107 : Go d 129 107 L (.int y :: .int x :: st) h Q = Go d 129 108 L (.int (x + y) :: st) h Q := go_op (E := (.iadd, 0, 0, 0)) rfl rfl
theorem s_129_108 : Go d 129 108 L (.int x :: .ref 53 :: st) (HP lx xs M) Q = Go d 129 111 L (st) (HP lx xs (up M 53 10 x)) Q := go_pf rfl rfl (by decide) (Nat.le_of_ble_eq_true rfl) rfl hf_53_10
theorem s_129_111 : Go d 129 111 [o0, o1, o2, o3, some (.int x)] (st) h Q = Go d 129 114 [o0, o1, o2, o3, some (.int (x + -1))] (st) h Q := (ci_im1 ▸ go_lo (E := (.iinc 4 (-1), 0, 0, 0)) rfl rfl rfl : _ = Go d 129 114 [o0, o1, o2, o3, some (.int (x + -1))] (st) h Q)
theorem s_129_114 : Go d 129 114 L (st) h Q = Go d 129 75 L (st) h Q := go_goto rfl
theorem s_129_117 : Go d 129 117 [some (.ref r), o1, o2, o3, o4] (st) h Q = Go d 129 118 [some (.ref r), o1, o2, o3, o4] (.ref r :: st) h Q := go_lo (E := (.aload_n 0, 0, 0, 0)) rfl rfl rfl
theorem s_129_118 : Go d 129 118 L (.ref 53 :: st) (HP lx xs M) Q = Go d 129 121 L (.int (M 53 10) :: st) (HP lx xs M) Q := go_gf rfl rfl (by decide) rfl
theorem s_129_121 : Go d 129 121 L [.int x] h Q = Q (some (.int x)) h := go_ri rfl rfl
theorem s_130_0 : Go d 130 0 [some (.ref r)] (st) h Q = Go d 130 1 [some (.ref r)] (.ref r :: st) h Q := go_lo (E := (.aload_n 0, 0, 0, 0)) rfl rfl rfl
theorem s_130_1 : Go d 130 1 L (.ref 53 :: st) (HP lx xs M) Q = Go d 130 4 L (.int (M 53 11) :: st) (HP lx xs M) Q := go_gf rfl rfl (by decide) rfl
theorem s_130_4 : Go d 130 4 [some (.ref r)] (st) h Q = Go d 130 5 [some (.ref r)] (.ref r :: st) h Q := go_lo (E := (.aload_n 0, 0, 0, 0)) rfl rfl rfl
theorem s_130_5 : Go d 130 5 L (.ref 53 :: st) (HP lx xs M) Q = Go d 130 8 L (.int (M 53 10) :: st) (HP lx xs M) Q := go_gf rfl rfl (by decide) rfl
theorem s_130_8 : Go d 130 8 L (.int y :: .int x :: st) h Q = (if x < y then Go d 130 11 L st h Q else Go d 130 38 L st h Q) := go_icge rfl
theorem s_130_11 : Go d 130 11 [some (.ref r)] (st) h Q = Go d 130 12 [some (.ref r)] (.ref r :: st) h Q := go_lo (E := (.aload_n 0, 0, 0, 0)) rfl rfl rfl
theorem s_130_12 : Go d 130 12 L (.ref 53 :: st) (HP lx xs M) Q = Go d 130 15 L (.ref 59 :: st) (HP lx xs M) Q := go_gf rfl rfl (by decide) rfl
theorem s_130_15 : Go d 130 15 [some (.ref r)] (st) h Q = Go d 130 16 [some (.ref r)] (.ref r :: st) h Q := go_lo (E := (.aload_n 0, 0, 0, 0)) rfl rfl rfl
theorem s_130_16 : Go d 130 16 L (.ref 53 :: st) (HP lx xs M) Q = Go d 130 19 L (.int (M 53 11) :: st) (HP lx xs M) Q := go_gf rfl rfl (by decide) rfl
theorem s_130_19 : Go d 130 19 L (.int x :: .ref 59 :: st) (HP lx xs M) Q = (ex_in x 160 = true ∧ Go d 130 20 L (.int (M 59 x.toNatClampNeg) :: st) (HP lx xs M) Q) := go_al rfl rfl
theorem s_130_20 : Go d 130 20 L (st) h Q = Go d 130 22 L (.int (nI 32) :: st) h Q := go_bi rfl ci_b32
theorem s_130_22 : Go d 130 22 L (.int y :: .int x :: st) h Q = (if x = y then Go d 130 25 L st h Q else Go d 130 38 L st h Q) := go_icne rfl
theorem s_130_25 : Go d 130 25 [some (.ref r)] (st) h Q = Go d 130 26 [some (.ref r)] (.ref r :: st) h Q := go_lo (E := (.aload_n 0, 0, 0, 0)) rfl rfl rfl
theorem s_130_26 : Go d 130 26 L (.ref r :: st) h Q = Go d 130 27 L (.ref r :: .ref r :: st) h Q := go_op (E := (.dup, 0, 0, 0)) rfl rfl
theorem s_130_27 : Go d 130 27 L (.ref 53 :: st) (HP lx xs M) Q = Go d 130 30 L (.int (M 53 11) :: st) (HP lx xs M) Q := go_gf rfl rfl (by decide) rfl
theorem s_130_30 : Go d 130 30 L (st) h Q = Go d 130 31 L (.int (nI 1) :: st) h Q := go_ic rfl ci_i1
theorem s_130_31 : Go d 130 31 L (.int y :: .int x :: st) h Q = Go d 130 32 L (.int (x + y) :: st) h Q := go_op (E := (.iadd, 0, 0, 0)) rfl rfl
theorem s_130_32 : Go d 130 32 L (.int x :: .ref 53 :: st) (HP lx xs M) Q = Go d 130 35 L (st) (HP lx xs (up M 53 11 x)) Q := go_pf rfl rfl (by decide) (Nat.le_of_ble_eq_true rfl) rfl hf_53_11
theorem s_130_35 : Go d 130 35 L (st) h Q = Go d 130 0 L (st) h Q := go_goto rfl
theorem s_130_38 : Go d 130 38 [some (.ref r)] (st) h Q = Go d 130 39 [some (.ref r)] (.ref r :: st) h Q := go_lo (E := (.aload_n 0, 0, 0, 0)) rfl rfl rfl
theorem s_130_39 : Go d 130 39 L (.ref 53 :: st) (HP lx xs M) Q = Go d 130 42 L (.int (M 53 11) :: st) (HP lx xs M) Q := go_gf rfl rfl (by decide) rfl
theorem s_130_42 : Go d 130 42 [some (.ref r)] (st) h Q = Go d 130 43 [some (.ref r)] (.ref r :: st) h Q := go_lo (E := (.aload_n 0, 0, 0, 0)) rfl rfl rfl
theorem s_130_43 : Go d 130 43 L (.ref 53 :: st) (HP lx xs M) Q = Go d 130 46 L (.int (M 53 10) :: st) (HP lx xs M) Q := go_gf rfl rfl (by decide) rfl
theorem s_130_46 : Go d 130 46 L (.int y :: .int x :: st) h Q = (if x < y then Go d 130 49 L st h Q else Go d 130 61 L st h Q) := go_icge rfl
theorem s_130_49 : Go d 130 49 [some (.ref r)] (st) h Q = Go d 130 50 [some (.ref r)] (.ref r :: st) h Q := go_lo (E := (.aload_n 0, 0, 0, 0)) rfl rfl rfl
theorem s_130_50 : Go d 130 50 L (.ref 53 :: st) (HP lx xs M) Q = Go d 130 53 L (.ref 59 :: st) (HP lx xs M) Q := go_gf rfl rfl (by decide) rfl
theorem s_130_53 : Go d 130 53 [some (.ref r)] (st) h Q = Go d 130 54 [some (.ref r)] (.ref r :: st) h Q := go_lo (E := (.aload_n 0, 0, 0, 0)) rfl rfl rfl
theorem s_130_54 : Go d 130 54 L (.ref 53 :: st) (HP lx xs M) Q = Go d 130 57 L (.int (M 53 11) :: st) (HP lx xs M) Q := go_gf rfl rfl (by decide) rfl
theorem s_130_57 : Go d 130 57 L (.int x :: .ref 59 :: st) (HP lx xs M) Q = (ex_in x 160 = true ∧ Go d 130 58 L (.int (M 59 x.toNatClampNeg) :: st) (HP lx xs M) Q) := go_al rfl rfl
theorem s_130_58 : Go d 130 58 L (st) h Q = Go d 130 62 L (st) h Q := go_goto rfl
theorem s_130_61 : Go d 130 61 L (st) h Q = Go d 130 62 L (.int (-1) :: st) h Q := go_ic rfl ci_im1
theorem s_130_62 : Go d 130 62 L [.int x] h Q = Q (some (.int x)) h := go_ri rfl rfl
theorem s_131_0 : Go d 131 0 [some (.ref r), o1, o2, o3, o4, o5] (st) h Q = Go d 131 1 [some (.ref r), o1, o2, o3, o4, o5] (.ref r :: st) h Q := go_lo (E := (.aload_n 0, 0, 0, 0)) rfl rfl rfl
theorem s_131_1  : Go (d + 1) 131 1 L [.ref 53] (HP lx xs M) Q = Go d 130 0 [some (.ref 53)] [] (HP lx xs M) (fun v h2 => Go (d + 1) 131 4 L (ap v []) h2 Q) := go_cx (E := (.invokevirtual 144, 130, 0, 7)) (k' := 130) (as := [.ref 53]) rfl rfl rfl rfl rfl rfl rfl rfl
theorem s_131_4 : Go d 131 4 [o0, o1, o2, o3, o4, o5] (.int x :: st) h Q = Go d 131 5 [o0, o1, some (.int x), o3, o4, o5] (st) h Q := go_lo (E := (.istore_n 2, 0, 0, 0)) rfl rfl rfl
theorem s_131_5 : Go d 131 5 [o0, o1, some (.int x), o3, o4, o5] (st) h Q = Go d 131 6 [o0, o1, some (.int x), o3, o4, o5] (.int x :: st) h Q := go_lo (E := (.iload_n 2, 0, 0, 0)) rfl rfl rfl
theorem s_131_6 : Go d 131 6 L (st) h Q = Go d 131 8 L (.int (nI 112) :: st) h Q := go_bi rfl ci_b112
theorem s_131_8 : Go d 131 8 L (.int y :: .int x :: st) h Q = (if x = y then Go d 131 11 L st h Q else Go d 131 15 L st h Q) := go_icne rfl
theorem s_131_11 : Go d 131 11 L (st) h Q = Go d 131 12 L (.int (nI 0) :: st) h Q := go_ic rfl ci_i0
theorem s_131_12 : Go d 131 12 L (st) h Q = Go d 131 46 L (st) h Q := go_goto rfl
theorem s_131_15 : Go d 131 15 [o0, o1, some (.int x), o3, o4, o5] (st) h Q = Go d 131 16 [o0, o1, some (.int x), o3, o4, o5] (.int x :: st) h Q := go_lo (E := (.iload_n 2, 0, 0, 0)) rfl rfl rfl
theorem s_131_16 : Go d 131 16 L (st) h Q = Go d 131 18 L (.int (nI 104) :: st) h Q := go_bi rfl ci_b104
theorem s_131_18 : Go d 131 18 L (.int y :: .int x :: st) h Q = (if x = y then Go d 131 21 L st h Q else Go d 131 25 L st h Q) := go_icne rfl
theorem s_131_21 : Go d 131 21 L (st) h Q = Go d 131 22 L (.int (nI 1) :: st) h Q := go_ic rfl ci_i1
theorem s_131_22 : Go d 131 22 L (st) h Q = Go d 131 46 L (st) h Q := go_goto rfl
theorem s_131_25 : Go d 131 25 [o0, o1, some (.int x), o3, o4, o5] (st) h Q = Go d 131 26 [o0, o1, some (.int x), o3, o4, o5] (.int x :: st) h Q := go_lo (E := (.iload_n 2, 0, 0, 0)) rfl rfl rfl
theorem s_131_26 : Go d 131 26 L (st) h Q = Go d 131 28 L (.int (nI 108) :: st) h Q := go_bi rfl ci_b108
theorem s_131_28 : Go d 131 28 L (.int y :: .int x :: st) h Q = (if x = y then Go d 131 31 L st h Q else Go d 131 35 L st h Q) := go_icne rfl
theorem s_131_31 : Go d 131 31 L (st) h Q = Go d 131 32 L (.int (nI 2) :: st) h Q := go_ic rfl ci_i2
theorem s_131_32 : Go d 131 32 L (st) h Q = Go d 131 46 L (st) h Q := go_goto rfl
theorem s_131_35 : Go d 131 35 [o0, o1, some (.int x), o3, o4, o5] (st) h Q = Go d 131 36 [o0, o1, some (.int x), o3, o4, o5] (.int x :: st) h Q := go_lo (E := (.iload_n 2, 0, 0, 0)) rfl rfl rfl
theorem s_131_36 : Go d 131 36 L (st) h Q = Go d 131 38 L (.int (nI 119) :: st) h Q := go_bi rfl ci_b119
theorem s_131_38 : Go d 131 38 L (.int y :: .int x :: st) h Q = (if x = y then Go d 131 41 L st h Q else Go d 131 45 L st h Q) := go_icne rfl
theorem s_131_41 : Go d 131 41 L (st) h Q = Go d 131 42 L (.int (nI 3) :: st) h Q := go_ic rfl ci_i3
theorem s_131_42 : Go d 131 42 L (st) h Q = Go d 131 46 L (st) h Q := go_goto rfl
theorem s_131_45 : Go d 131 45 L (st) h Q = Go d 131 46 L (.int (-1) :: st) h Q := go_ic rfl ci_im1
theorem s_131_46 : Go d 131 46 [o0, o1, o2, o3, o4, o5] (.int x :: st) h Q = Go d 131 47 [o0, o1, o2, some (.int x), o4, o5] (st) h Q := go_lo (E := (.istore_n 3, 0, 0, 0)) rfl rfl rfl
theorem s_131_47 : Go d 131 47 [o0, o1, o2, some (.int x), o4, o5] (st) h Q = Go d 131 48 [o0, o1, o2, some (.int x), o4, o5] (.int x :: st) h Q := go_lo (E := (.iload_n 3, 0, 0, 0)) rfl rfl rfl
theorem s_131_48 : Go d 131 48 L (.int x :: st) h Q = (if x < 0 then Go d 131 51 L st h Q else Go d 131 53 L st h Q) := go_ifge rfl
theorem s_131_51 : Go d 131 51 L (st) h Q = Go d 131 52 L (.int (nI 0) :: st) h Q := go_ic rfl ci_i0
theorem s_131_52_0 : Go d 131 52 L [.int (nI 0)] h Q = Q (some (.int (nI 0))) h := go_rz rfl rfl (by decide)
theorem s_131_52_1 : Go d 131 52 L [.int (nI 1)] h Q = Q (some (.int (nI 1))) h := go_rz rfl rfl (by decide)
theorem s_131_53 : Go d 131 53 [some (.ref r), o1, o2, o3, o4, o5] (st) h Q = Go d 131 54 [some (.ref r), o1, o2, o3, o4, o5] (.ref r :: st) h Q := go_lo (E := (.aload_n 0, 0, 0, 0)) rfl rfl rfl
theorem s_131_54 : Go d 131 54 L (.ref r :: st) h Q = Go d 131 55 L (.ref r :: .ref r :: st) h Q := go_op (E := (.dup, 0, 0, 0)) rfl rfl
theorem s_131_55 : Go d 131 55 L (.ref 53 :: st) (HP lx xs M) Q = Go d 131 58 L (.int (M 53 11) :: st) (HP lx xs M) Q := go_gf rfl rfl (by decide) rfl
theorem s_131_58 : Go d 131 58 L (st) h Q = Go d 131 59 L (.int (nI 1) :: st) h Q := go_ic rfl ci_i1
theorem s_131_59 : Go d 131 59 L (.int y :: .int x :: st) h Q = Go d 131 60 L (.int (x + y) :: st) h Q := go_op (E := (.iadd, 0, 0, 0)) rfl rfl
theorem s_131_60 : Go d 131 60 L (.int x :: .ref 53 :: st) (HP lx xs M) Q = Go d 131 63 L (st) (HP lx xs (up M 53 11 x)) Q := go_pf rfl rfl (by decide) (Nat.le_of_ble_eq_true rfl) rfl hf_53_11
theorem s_131_63 : Go d 131 63 L (st) h Q = Go d 131 64 L (.int (nI 0) :: st) h Q := go_ic rfl ci_i0
theorem s_131_64 : Go d 131 64 [o0, o1, o2, o3, o4, o5] (.int x :: st) h Q = Go d 131 66 [o0, o1, o2, o3, some (.int x), o5] (st) h Q := go_lo (E := (.istore 4, 0, 0, 0)) rfl rfl rfl
theorem s_131_66 : Go d 131 66 [some (.ref r), o1, o2, o3, o4, o5] (st) h Q = Go d 131 67 [some (.ref r), o1, o2, o3, o4, o5] (.ref r :: st) h Q := go_lo (E := (.aload_n 0, 0, 0, 0)) rfl rfl rfl
theorem s_131_67  : Go (d + 1) 131 67 L [.ref 53] (HP lx xs M) Q = Go d 130 0 [some (.ref 53)] [] (HP lx xs M) (fun v h2 => Go (d + 1) 131 70 L (ap v []) h2 Q) := go_cx (E := (.invokevirtual 144, 130, 0, 7)) (k' := 130) (as := [.ref 53]) rfl rfl rfl rfl rfl rfl rfl rfl
theorem s_131_70 : Go d 131 70 L (.int x :: st) h Q = Go d 131 71 L (.long (x.toInt64) :: st) h Q := go_op (E := (.i2l, 0, 0, 0)) rfl rfl
theorem s_131_71 : Go d 131 71 L (st) h Q = Go d 131 74 L (.long (lN 97) :: st) h Q := go_ld2 rfl ci_l97
theorem s_131_74 : Go d 131 74 L (st) h Q = Go d 131 77 L (.long (lN 100) :: st) h Q := go_ld2 rfl ci_l100
theorem s_131_77 {al0 : Int64} {al1 : Int64} {al2 : Int64} : Go (d + 1) 131 77 L [.long al2, .long al1, .long al0] h Q = Go d 114 0 [some (.long al0), none, some (.long al1), none, some (.long al2), none] [] h (fun v h2 => Go (d + 1) 131 80 L (ap v []) h2 Q) := go_cx (E := (.invokestatic 84, 114, 0, 0)) (k' := 114) (as := [.long al0, .long al1, .long al2]) rfl rfl rfl rfl rfl rfl rfl rfl
theorem s_131_80 : Go d 131 80 L (.int x :: st) h Q = (if x = 0 then Go d 131 126 L st h Q else Go d 131 83 L st h Q) := go_ifeq rfl
theorem s_131_83 : Go d 131 83 [some (.ref r), o1, o2, o3, o4, o5] (st) h Q = Go d 131 84 [some (.ref r), o1, o2, o3, o4, o5] (.ref r :: st) h Q := go_lo (E := (.aload_n 0, 0, 0, 0)) rfl rfl rfl
theorem s_131_84  : Go (d + 1) 131 84 L [.ref 53] (HP lx xs M) Q = Go d 130 0 [some (.ref 53)] [] (HP lx xs M) (fun v h2 => Go (d + 1) 131 87 L (ap v []) h2 Q) := go_cx (E := (.invokevirtual 144, 130, 0, 7)) (k' := 130) (as := [.ref 53]) rfl rfl rfl rfl rfl rfl rfl rfl
theorem s_131_87 : Go d 131 87 L (st) h Q = Go d 131 89 L (.int (nI 97) :: st) h Q := go_bi rfl ci_b97
theorem s_131_89 : Go d 131 89 L (.int y :: .int x :: st) h Q = Go d 131 90 L (.int (x - y) :: st) h Q := go_op (E := (.isub, 0, 0, 0)) rfl rfl
theorem s_131_90 : Go d 131 90 [o0, o1, o2, o3, o4, o5] (.int x :: st) h Q = Go d 131 92 [o0, o1, o2, o3, o4, some (.int x)] (st) h Q := go_lo (E := (.istore 5, 0, 0, 0)) rfl rfl rfl
theorem s_131_92 : Go d 131 92 [o0, o1, o2, o3, some (.int x), o5] (st) h Q = Go d 131 94 [o0, o1, o2, o3, some (.int x), o5] (.int x :: st) h Q := go_lo (E := (.iload 4, 0, 0, 0)) rfl rfl rfl
theorem s_131_94 : Go d 131 94 [o0, o1, o2, o3, o4, some (.int x)] (st) h Q = Go d 131 96 [o0, o1, o2, o3, o4, some (.int x)] (.int x :: st) h Q := go_lo (E := (.iload 5, 0, 0, 0)) rfl rfl rfl
theorem s_131_96 {a0 : Int32} {a1 : Int32} : Go (d + 1) 131 96 L [.int a1, .int a0] h Q = Go d 115 0 [some (.int a0), some (.int a1)] [] h (fun v h2 => Go (d + 1) 131 99 L (ap v []) h2 Q) := go_cx (E := (.invokestatic 107, 115, 0, 0)) (k' := 115) (as := [.int a0, .int a1]) rfl rfl rfl rfl rfl rfl rfl rfl
theorem s_131_99 : Go d 131 99 L (.int x :: st) h Q = (if x = 0 then Go d 131 104 L st h Q else Go d 131 102 L st h Q) := go_ifeq rfl
theorem s_131_102 : Go d 131 102 L (st) h Q = Go d 131 103 L (.int (nI 0) :: st) h Q := go_ic rfl ci_i0
theorem s_131_103_0 : Go d 131 103 L [.int (nI 0)] h Q = Q (some (.int (nI 0))) h := go_rz rfl rfl (by decide)
theorem s_131_103_1 : Go d 131 103 L [.int (nI 1)] h Q = Q (some (.int (nI 1))) h := go_rz rfl rfl (by decide)
theorem s_131_104 : Go d 131 104 [o0, o1, o2, o3, some (.int x), o5] (st) h Q = Go d 131 106 [o0, o1, o2, o3, some (.int x), o5] (.int x :: st) h Q := go_lo (E := (.iload 4, 0, 0, 0)) rfl rfl rfl
theorem s_131_106 : Go d 131 106 L (st) h Q = Go d 131 107 L (.int (nI 1) :: st) h Q := go_ic rfl ci_i1
theorem s_131_107 : Go d 131 107 [o0, o1, o2, o3, o4, some (.int x)] (st) h Q = Go d 131 109 [o0, o1, o2, o3, o4, some (.int x)] (.int x :: st) h Q := go_lo (E := (.iload 5, 0, 0, 0)) rfl rfl rfl
theorem s_131_109 : Go d 131 109 L (.int y :: .int x :: st) h Q = Go d 131 110 L (.int (x <<< (y &&& 31)) :: st) h Q := go_op (E := (.ishl, 0, 0, 0)) rfl rfl
theorem s_131_110 : Go d 131 110 L (.int y :: .int x :: st) h Q = Go d 131 111 L (.int (x ||| y) :: st) h Q := go_op (E := (.ior, 0, 0, 0)) rfl rfl
theorem s_131_111 : Go d 131 111 [o0, o1, o2, o3, o4, o5] (.int x :: st) h Q = Go d 131 113 [o0, o1, o2, o3, some (.int x), o5] (st) h Q := go_lo (E := (.istore 4, 0, 0, 0)) rfl rfl rfl
theorem s_131_113 : Go d 131 113 [some (.ref r), o1, o2, o3, o4, o5] (st) h Q = Go d 131 114 [some (.ref r), o1, o2, o3, o4, o5] (.ref r :: st) h Q := go_lo (E := (.aload_n 0, 0, 0, 0)) rfl rfl rfl
theorem s_131_114 : Go d 131 114 L (.ref r :: st) h Q = Go d 131 115 L (.ref r :: .ref r :: st) h Q := go_op (E := (.dup, 0, 0, 0)) rfl rfl
theorem s_131_115 : Go d 131 115 L (.ref 53 :: st) (HP lx xs M) Q = Go d 131 118 L (.int (M 53 11) :: st) (HP lx xs M) Q := go_gf rfl rfl (by decide) rfl
theorem s_131_118 : Go d 131 118 L (st) h Q = Go d 131 119 L (.int (nI 1) :: st) h Q := go_ic rfl ci_i1
theorem s_131_119 : Go d 131 119 L (.int y :: .int x :: st) h Q = Go d 131 120 L (.int (x + y) :: st) h Q := go_op (E := (.iadd, 0, 0, 0)) rfl rfl
theorem s_131_120 : Go d 131 120 L (.int x :: .ref 53 :: st) (HP lx xs M) Q = Go d 131 123 L (st) (HP lx xs (up M 53 11 x)) Q := go_pf rfl rfl (by decide) (Nat.le_of_ble_eq_true rfl) rfl hf_53_11
theorem s_131_123 : Go d 131 123 L (st) h Q = Go d 131 66 L (st) h Q := go_goto rfl
theorem s_131_126 : Go d 131 126 [some (.ref r), o1, o2, o3, o4, o5] (st) h Q = Go d 131 127 [some (.ref r), o1, o2, o3, o4, o5] (.ref r :: st) h Q := go_lo (E := (.aload_n 0, 0, 0, 0)) rfl rfl rfl
theorem s_131_127 : Go d 131 127 L (.ref 53 :: st) (HP lx xs M) Q = Go d 131 130 L (.ref 60 :: st) (HP lx xs M) Q := go_gf rfl rfl (by decide) rfl
theorem s_131_130 : Go d 131 130 L (st) h Q = Go d 131 131 L (.int (nI 2) :: st) h Q := go_ic rfl ci_i2
theorem s_131_131 : Go d 131 131 [o0, some (.int x), o2, o3, o4, o5] (st) h Q = Go d 131 132 [o0, some (.int x), o2, o3, o4, o5] (.int x :: st) h Q := go_lo (E := (.iload_n 1, 0, 0, 0)) rfl rfl rfl
theorem s_131_132 : Go d 131 132 L (.int y :: .int x :: st) h Q = Go d 131 133 L (.int (x * y) :: st) h Q := go_op (E := (.imul, 0, 0, 0)) rfl rfl
theorem s_131_133 : Go d 131 133 [o0, o1, o2, some (.int x), o4, o5] (st) h Q = Go d 131 134 [o0, o1, o2, some (.int x), o4, o5] (.int x :: st) h Q := go_lo (E := (.iload_n 3, 0, 0, 0)) rfl rfl rfl
theorem s_131_134 : Go d 131 134 L (.int y :: .int x :: .ref 60 :: st) (HP lx xs M) Q = (ex_in x 96 = true ∧ Go d 131 135 L (st) (HP lx xs (up M 60 x.toNatClampNeg y)) Q) := go_as rfl rfl (by decide) hs_60
theorem s_131_135 : Go d 131 135 [some (.ref r), o1, o2, o3, o4, o5] (st) h Q = Go d 131 136 [some (.ref r), o1, o2, o3, o4, o5] (.ref r :: st) h Q := go_lo (E := (.aload_n 0, 0, 0, 0)) rfl rfl rfl
theorem s_131_136 : Go d 131 136 L (.ref 53 :: st) (HP lx xs M) Q = Go d 131 139 L (.ref 60 :: st) (HP lx xs M) Q := go_gf rfl rfl (by decide) rfl
theorem s_131_139 : Go d 131 139 L (st) h Q = Go d 131 140 L (.int (nI 2) :: st) h Q := go_ic rfl ci_i2
theorem s_131_140 : Go d 131 140 [o0, some (.int x), o2, o3, o4, o5] (st) h Q = Go d 131 141 [o0, some (.int x), o2, o3, o4, o5] (.int x :: st) h Q := go_lo (E := (.iload_n 1, 0, 0, 0)) rfl rfl rfl
theorem s_131_141 : Go d 131 141 L (.int y :: .int x :: st) h Q = Go d 131 142 L (.int (x * y) :: st) h Q := go_op (E := (.imul, 0, 0, 0)) rfl rfl
theorem s_131_142 : Go d 131 142 L (st) h Q = Go d 131 143 L (.int (nI 1) :: st) h Q := go_ic rfl ci_i1
theorem s_131_143 : Go d 131 143 L (.int y :: .int x :: st) h Q = Go d 131 144 L (.int (x + y) :: st) h Q := go_op (E := (.iadd, 0, 0, 0)) rfl rfl
theorem s_131_144 : Go d 131 144 [o0, o1, o2, o3, some (.int x), o5] (st) h Q = Go d 131 146 [o0, o1, o2, o3, some (.int x), o5] (.int x :: st) h Q := go_lo (E := (.iload 4, 0, 0, 0)) rfl rfl rfl
theorem s_131_146 : Go d 131 146 L (.int y :: .int x :: .ref 60 :: st) (HP lx xs M) Q = (ex_in x 96 = true ∧ Go d 131 147 L (st) (HP lx xs (up M 60 x.toNatClampNeg y)) Q) := go_as rfl rfl (by decide) hs_60
theorem s_131_147 : Go d 131 147 L (st) h Q = Go d 131 148 L (.int (nI 1) :: st) h Q := go_ic rfl ci_i1
theorem s_131_148_0 : Go d 131 148 L [.int (nI 0)] h Q = Q (some (.int (nI 0))) h := go_rz rfl rfl (by decide)
theorem s_131_148_1 : Go d 131 148 L [.int (nI 1)] h Q = Q (some (.int (nI 1))) h := go_rz rfl rfl (by decide)
theorem s_132_0 : Go d 132 0 [some (.ref r), o1, o2] (st) h Q = Go d 132 1 [some (.ref r), o1, o2] (.ref r :: st) h Q := go_lo (E := (.aload_n 0, 0, 0, 0)) rfl rfl rfl
theorem s_132_1 : Go d 132 1 L (st) h Q = Go d 132 2 L (.int (nI 0) :: st) h Q := go_ic rfl ci_i0
theorem s_132_2 : Go d 132 2 L (.int x :: .ref 53 :: st) (HP lx xs M) Q = Go d 132 5 L (st) (HP lx xs (up M 53 11 x)) Q := go_pf rfl rfl (by decide) (Nat.le_of_ble_eq_true rfl) rfl hf_53_11
theorem s_132_5 : Go d 132 5 L (st) h Q = Go d 132 6 L (.int (nI 0) :: st) h Q := go_ic rfl ci_i0
theorem s_132_6 : Go d 132 6 [o0, o1, o2] (.int x :: st) h Q = Go d 132 7 [o0, some (.int x), o2] (st) h Q := go_lo (E := (.istore_n 1, 0, 0, 0)) rfl rfl rfl
theorem s_132_7 : Go d 132 7 [o0, some (.int x), o2] (st) h Q = Go d 132 8 [o0, some (.int x), o2] (.int x :: st) h Q := go_lo (E := (.iload_n 1, 0, 0, 0)) rfl rfl rfl
theorem s_132_8 : Go d 132 8 L (st) h Q = Go d 132 10 L (.int (nI 6) :: st) h Q := go_bi rfl ci_b6
theorem s_132_10 : Go d 132 10 L (.int y :: .int x :: st) h Q = (if x < y then Go d 132 13 L st h Q else Go d 132 70 L st h Q) := go_icge rfl
theorem s_132_13 : Go d 132 13 [some (.ref r), o1, o2] (st) h Q = Go d 132 14 [some (.ref r), o1, o2] (.ref r :: st) h Q := go_lo (E := (.aload_n 0, 0, 0, 0)) rfl rfl rfl
theorem s_132_14 : Go d 132 14 [o0, some (.int x), o2] (st) h Q = Go d 132 15 [o0, some (.int x), o2] (.int x :: st) h Q := go_lo (E := (.iload_n 1, 0, 0, 0)) rfl rfl rfl
theorem s_132_15 {a1 : Int32} : Go (d + 1) 132 15 L [.int a1, .ref 53] (HP lx xs M) Q = Go d 131 0 [some (.ref 53), some (.int a1), none, none, none, none] [] (HP lx xs M) (fun v h2 => Go (d + 1) 132 18 L (ap v []) h2 Q) := go_cx (E := (.invokevirtual 152, 131, 0, 7)) (k' := 131) (as := [.ref 53, .int a1]) rfl rfl rfl rfl rfl rfl rfl rfl
theorem s_132_18 : Go d 132 18 L (.int x :: st) h Q = (if x = 0 then Go d 132 21 L st h Q else Go d 132 23 L st h Q) := go_ifne rfl
theorem s_132_21 : Go d 132 21 L (st) h Q = Go d 132 22 L (.int (nI 0) :: st) h Q := go_ic rfl ci_i0
theorem s_132_22_0 : Go d 132 22 L [.int (nI 0)] h Q = Q (some (.int (nI 0))) h := go_rz rfl rfl (by decide)
theorem s_132_22_1 : Go d 132 22 L [.int (nI 1)] h Q = Q (some (.int (nI 1))) h := go_rz rfl rfl (by decide)
theorem s_132_23 : Go d 132 23 [some (.ref r), o1, o2] (st) h Q = Go d 132 24 [some (.ref r), o1, o2] (.ref r :: st) h Q := go_lo (E := (.aload_n 0, 0, 0, 0)) rfl rfl rfl
theorem s_132_24 : Go d 132 24 [o0, some (.int x), o2] (st) h Q = Go d 132 25 [o0, some (.int x), o2] (.int x :: st) h Q := go_lo (E := (.iload_n 1, 0, 0, 0)) rfl rfl rfl
theorem s_132_25 : Go d 132 25 L (st) h Q = Go d 132 26 L (.int (nI 1) :: st) h Q := go_ic rfl ci_i1
theorem s_132_26 : Go d 132 26 L (.int y :: .int x :: st) h Q = Go d 132 27 L (.int (x + y) :: st) h Q := go_op (E := (.iadd, 0, 0, 0)) rfl rfl
theorem s_132_27 : Go d 132 27 L (.int x :: .ref 53 :: st) (HP lx xs M) Q = Go d 132 30 L (st) (HP lx xs (up M 53 12 x)) Q := go_pf rfl rfl (by decide) (Nat.le_of_ble_eq_true rfl) rfl hf_53_12
theorem s_132_30 : Go d 132 30 [some (.ref r), o1, o2] (st) h Q = Go d 132 31 [some (.ref r), o1, o2] (.ref r :: st) h Q := go_lo (E := (.aload_n 0, 0, 0, 0)) rfl rfl rfl
theorem s_132_31  : Go (d + 1) 132 31 L [.ref 53] (HP lx xs M) Q = Go d 130 0 [some (.ref 53)] [] (HP lx xs M) (fun v h2 => Go (d + 1) 132 34 L (ap v []) h2 Q) := go_cx (E := (.invokevirtual 144, 130, 0, 7)) (k' := 130) (as := [.ref 53]) rfl rfl rfl rfl rfl rfl rfl rfl
theorem s_132_34 : Go d 132 34 [o0, o1, o2] (.int x :: st) h Q = Go d 132 35 [o0, o1, some (.int x)] (st) h Q := go_lo (E := (.istore_n 2, 0, 0, 0)) rfl rfl rfl
theorem s_132_35 : Go d 132 35 [o0, o1, some (.int x)] (st) h Q = Go d 132 36 [o0, o1, some (.int x)] (.int x :: st) h Q := go_lo (E := (.iload_n 2, 0, 0, 0)) rfl rfl rfl
theorem s_132_36 : Go d 132 36 L (.int x :: st) h Q = (if x < 0 then Go d 132 39 L st h Q else Go d 132 41 L st h Q) := go_ifge rfl
theorem s_132_39 : Go d 132 39 L (st) h Q = Go d 132 40 L (.int (nI 1) :: st) h Q := go_ic rfl ci_i1
theorem s_132_40_0 : Go d 132 40 L [.int (nI 0)] h Q = Q (some (.int (nI 0))) h := go_rz rfl rfl (by decide)
theorem s_132_40_1 : Go d 132 40 L [.int (nI 1)] h Q = Q (some (.int (nI 1))) h := go_rz rfl rfl (by decide)
theorem s_132_41 : Go d 132 41 [o0, o1, some (.int x)] (st) h Q = Go d 132 42 [o0, o1, some (.int x)] (.int x :: st) h Q := go_lo (E := (.iload_n 2, 0, 0, 0)) rfl rfl rfl
theorem s_132_42 : Go d 132 42 L (st) h Q = Go d 132 44 L (.int (nI 44) :: st) h Q := go_bi rfl ci_b44
theorem s_132_44 : Go d 132 44 L (.int y :: .int x :: st) h Q = (if x = y then Go d 132 47 L st h Q else Go d 132 52 L st h Q) := go_icne rfl
theorem s_132_47 : Go d 132 47 [o0, some (.int x), o2] (st) h Q = Go d 132 48 [o0, some (.int x), o2] (.int x :: st) h Q := go_lo (E := (.iload_n 1, 0, 0, 0)) rfl rfl rfl
theorem s_132_48 : Go d 132 48 L (st) h Q = Go d 132 49 L (.int (nI 5) :: st) h Q := go_ic rfl ci_i5
theorem s_132_49 : Go d 132 49 L (.int y :: .int x :: st) h Q = (if x = y then Go d 132 52 L st h Q else Go d 132 54 L st h Q) := go_icne rfl
theorem s_132_52 : Go d 132 52 L (st) h Q = Go d 132 53 L (.int (nI 0) :: st) h Q := go_ic rfl ci_i0
theorem s_132_53_0 : Go d 132 53 L [.int (nI 0)] h Q = Q (some (.int (nI 0))) h := go_rz rfl rfl (by decide)
theorem s_132_53_1 : Go d 132 53 L [.int (nI 1)] h Q = Q (some (.int (nI 1))) h := go_rz rfl rfl (by decide)
theorem s_132_54 : Go d 132 54 [some (.ref r), o1, o2] (st) h Q = Go d 132 55 [some (.ref r), o1, o2] (.ref r :: st) h Q := go_lo (E := (.aload_n 0, 0, 0, 0)) rfl rfl rfl
theorem s_132_55 : Go d 132 55 L (.ref r :: st) h Q = Go d 132 56 L (.ref r :: .ref r :: st) h Q := go_op (E := (.dup, 0, 0, 0)) rfl rfl
theorem s_132_56 : Go d 132 56 L (.ref 53 :: st) (HP lx xs M) Q = Go d 132 59 L (.int (M 53 11) :: st) (HP lx xs M) Q := go_gf rfl rfl (by decide) rfl
theorem s_132_59 : Go d 132 59 L (st) h Q = Go d 132 60 L (.int (nI 1) :: st) h Q := go_ic rfl ci_i1
theorem s_132_60 : Go d 132 60 L (.int y :: .int x :: st) h Q = Go d 132 61 L (.int (x + y) :: st) h Q := go_op (E := (.iadd, 0, 0, 0)) rfl rfl
theorem s_132_61 : Go d 132 61 L (.int x :: .ref 53 :: st) (HP lx xs M) Q = Go d 132 64 L (st) (HP lx xs (up M 53 11 x)) Q := go_pf rfl rfl (by decide) (Nat.le_of_ble_eq_true rfl) rfl hf_53_11
theorem s_132_64 : Go d 132 64 [o0, some (.int x), o2] (st) h Q = Go d 132 67 [o0, some (.int (x + nI 1)), o2] (st) h Q := (ci_i1 ▸ go_lo (E := (.iinc 1 1, 0, 0, 0)) rfl rfl rfl : _ = Go d 132 67 [o0, some (.int (x + nI 1)), o2] (st) h Q)
theorem s_132_67 : Go d 132 67 L (st) h Q = Go d 132 7 L (st) h Q := go_goto rfl
theorem s_132_70 : Go d 132 70 L (st) h Q = Go d 132 71 L (.int (nI 0) :: st) h Q := go_ic rfl ci_i0
theorem s_132_71_0 : Go d 132 71 L [.int (nI 0)] h Q = Q (some (.int (nI 0))) h := go_rz rfl rfl (by decide)
theorem s_132_71_1 : Go d 132 71 L [.int (nI 1)] h Q = Q (some (.int (nI 1))) h := go_rz rfl rfl (by decide)
end SL
