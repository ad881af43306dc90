section SL
variable {d : Nat} {L : ex_L} {st : List Value} {h : ex_H} {Q : Option Value → ex_H → Prop} {lx : Nat} {xs : Nat → Int32} {M : Nat → Nat → Int32} {x y : Int32} {u w : Int64} {r r2 : Nat} {o0 o1 o2 o3 o4 o5 o6 o7 o8 o9 o10 o11 : Option Value}
theorem s_57_0 : Go d 57 0 [o0, some (.int x)] (st) h Q = Go d 57 1 [o0, some (.int x)] (.int x :: st) h Q := go_lo (E := (.iload_n 1, 0, 0, 0)) rfl rfl rfl
theorem s_57_1 : Go d 57 1 L (.int x :: st) h Q = (if x < 0 then Go d 57 16 L st h Q else Go d 57 4 L st h Q) := go_iflt rfl
theorem s_57_4 : Go d 57 4 [o0, some (.int x)] (st) h Q = Go d 57 5 [o0, some (.int x)] (.int x :: st) h Q := go_lo (E := (.iload_n 1, 0, 0, 0)) rfl rfl rfl
theorem s_57_5 : Go d 57 5 [some (.ref r), o1] (st) h Q = Go d 57 6 [some (.ref r), o1] (.ref r :: st) h Q := go_lo (E := (.aload_n 0, 0, 0, 0)) rfl rfl rfl
theorem s_57_6 : Go d 57 6 L (.ref 2 :: st) (HP lx xs M) Q = Go d 57 9 L (.int (M 2 0) :: st) (HP lx xs M) Q := go_gf rfl rfl (by decide) rfl
theorem s_57_9 : Go d 57 9 L (.int y :: .int x :: st) h Q = (if x < y then Go d 57 12 L st h Q else Go d 57 16 L st h Q) := go_icge rfl
theorem s_57_12 : Go d 57 12 L (st) h Q = Go d 57 13 L (.int (nI 1) :: st) h Q := go_ic rfl ci_i1
theorem s_57_13 : Go d 57 13 L (st) h Q = Go d 57 17 L (st) h Q := go_goto rfl
theorem s_57_16 : Go d 57 16 L (st) h Q = Go d 57 17 L (.int (nI 0) :: st) h Q := go_ic rfl ci_i0
theorem s_57_17_0 : Go d 57 17 L [.int (nI 0)] h Q = Q (some (.int (nI 0))) h := go_rz rfl rfl (by decide)
theorem s_57_17_1 : Go d 57 17 L [.int (nI 1)] h Q = Q (some (.int (nI 1))) h := go_rz rfl rfl (by decide)
theorem s_58_0 : Go d 58 0 [some (.ref r), o1, o2, o3] (st) h Q = Go d 58 1 [some (.ref r), o1, o2, o3] (.ref r :: st) h Q := go_lo (E := (.aload_n 0, 0, 0, 0)) rfl rfl rfl
theorem s_58_1 : Go d 58 1 [o0, some (.int x), o2, o3] (st) h Q = Go d 58 2 [o0, some (.int x), o2, o3] (.int x :: st) h Q := go_lo (E := (.iload_n 1, 0, 0, 0)) rfl rfl rfl
theorem s_58_2 {a1 : Int32} : Go (d + 1) 58 2 L [.int a1, .ref 2] (HP lx xs M) Q = Go d 57 0 [some (.ref 2), some (.int a1)] [] (HP lx xs M) (fun v h2 => Go (d + 1) 58 5 L (ap v []) h2 Q) := go_cx (E := (.invokevirtual 53, 57, 0, 3)) (k' := 57) (as := [.ref 2, .int a1]) rfl rfl rfl rfl rfl rfl rfl rfl
theorem s_58_5 : Go d 58 5 L (.int x :: st) h Q = (if x = 0 then Go d 58 32 L st h Q else Go d 58 8 L st h Q) := go_ifeq rfl
theorem s_58_8 : Go d 58 8 [some (.ref r), o1, o2, o3] (st) h Q = Go d 58 9 [some (.ref r), o1, o2, o3] (.ref r :: st) h Q := go_lo (E := (.aload_n 0, 0, 0, 0)) rfl rfl rfl
theorem s_58_9 : Go d 58 9 [o0, o1, some (.int x), o3] (st) h Q = Go d 58 10 [o0, o1, some (.int x), o3] (.int x :: st) h Q := go_lo (E := (.iload_n 2, 0, 0, 0)) rfl rfl rfl
theorem s_58_10 {a1 : Int32} : Go (d + 1) 58 10 L [.int a1, .ref 2] (HP lx xs M) Q = Go d 57 0 [some (.ref 2), some (.int a1)] [] (HP lx xs M) (fun v h2 => Go (d + 1) 58 13 L (ap v []) h2 Q) := go_cx (E := (.invokevirtual 53, 57, 0, 3)) (k' := 57) (as := [.ref 2, .int a1]) rfl rfl rfl rfl rfl rfl rfl rfl
theorem s_58_13 : Go d 58 13 L (.int x :: st) h Q = (if x = 0 then Go d 58 32 L st h Q else Go d 58 16 L st h Q) := go_ifeq rfl
theorem s_58_16 : Go d 58 16 [o0, o1, o2, some (.int x)] (st) h Q = Go d 58 17 [o0, o1, o2, some (.int x)] (.int x :: st) h Q := go_lo (E := (.iload_n 3, 0, 0, 0)) rfl rfl rfl
theorem s_58_17 {a0 : Int32} : Go (d + 1) 58 17 L [.int a0] h Q = Go d 45 0 [some (.int a0)] [] h (fun v h2 => Go (d + 1) 58 20 L (ap v []) h2 Q) := go_cx (E := (.invokestatic 57, 45, 1, 0)) (k' := 45) (as := [.int a0]) rfl rfl rfl rfl rfl rfl rfl rfl
theorem s_58_20 : Go d 58 20 L (.int x :: st) h Q = (if x = 0 then Go d 58 32 L st h Q else Go d 58 23 L st h Q) := go_ifeq rfl
theorem s_58_23 : Go d 58 23 [o0, some (.int x), o2, o3] (st) h Q = Go d 58 24 [o0, some (.int x), o2, o3] (.int x :: st) h Q := go_lo (E := (.iload_n 1, 0, 0, 0)) rfl rfl rfl
theorem s_58_24 : Go d 58 24 [o0, o1, some (.int x), o3] (st) h Q = Go d 58 25 [o0, o1, some (.int x), o3] (.int x :: st) h Q := go_lo (E := (.iload_n 2, 0, 0, 0)) rfl rfl rfl
theorem s_58_25 : Go d 58 25 L (.int y :: .int x :: st) h Q = (if x = y then Go d 58 32 L st h Q else Go d 58 28 L st h Q) := go_iceq rfl
theorem s_58_28 : Go d 58 28 L (st) h Q = Go d 58 29 L (.int (nI 1) :: st) h Q := go_ic rfl ci_i1
theorem s_58_29 : Go d 58 29 L (st) h Q = Go d 58 33 L (st) h Q := go_goto rfl
theorem s_58_32 : Go d 58 32 L (st) h Q = Go d 58 33 L (.int (nI 0) :: st) h Q := go_ic rfl ci_i0
theorem s_58_33_0 : Go d 58 33 L [.int (nI 0)] h Q = Q (some (.int (nI 0))) h := go_rz rfl rfl (by decide)
theorem s_58_33_1 : Go d 58 33 L [.int (nI 1)] h Q = Q (some (.int (nI 1))) h := go_rz rfl rfl (by decide)
theorem s_59_0 : Go d 59 0 [some (.ref r), o1, o2] (st) h Q = Go d 59 1 [some (.ref r), o1, o2] (.ref r :: st) h Q := go_lo (E := (.aload_n 0, 0, 0, 0)) rfl rfl rfl
theorem s_59_1 : Go d 59 1 L (.ref 2 :: st) (HP lx xs M) Q = Go d 59 4 L (.ref 4 :: st) (HP lx xs M) Q := go_gf rfl rfl (by decide) rfl
theorem s_59_4 : Go d 59 4 [o0, some (.int x), o2] (st) h Q = Go d 59 5 [o0, some (.int x), o2] (.int x :: st) h Q := go_lo (E := (.iload_n 1, 0, 0, 0)) rfl rfl rfl
theorem s_59_5 : Go d 59 5 L (st) h Q = Go d 59 6 L (.int (nI 4) :: st) h Q := go_ic rfl ci_i4
theorem s_59_6 : Go d 59 6 L (.int y :: .int x :: st) h Q = Go d 59 7 L (.int (x * y) :: st) h Q := go_op (E := (.imul, 0, 0, 0)) rfl rfl
theorem s_59_7 : Go d 59 7 [o0, o1, some (.int x)] (st) h Q = Go d 59 8 [o0, o1, some (.int x)] (.int x :: st) h Q := go_lo (E := (.iload_n 2, 0, 0, 0)) rfl rfl rfl
theorem s_59_8 : Go d 59 8 L (.int y :: .int x :: st) h Q = Go d 59 9 L (.int (x + y) :: st) h Q := go_op (E := (.iadd, 0, 0, 0)) rfl rfl
theorem s_59_9 : Go d 59 9 L (.int x :: .ref 4 :: st) (HP lx xs M) Q = (ex_in x 24 = true ∧ Go d 59 10 L (.int (M 4 x.toNatClampNeg) :: st) (HP lx xs M) Q) := go_al rfl rfl
theorem s_59_10 : Go d 59 10 L [.int x] h Q = Q (some (.int x)) h := go_ri rfl rfl
theorem s_60_0 : Go d 60 0 [some (.ref r), o1, o2, o3] (st) h Q = Go d 60 1 [some (.ref r), o1, o2, o3] (.ref r :: st) h Q := go_lo (E := (.aload_n 0, 0, 0, 0)) rfl rfl rfl
theorem s_60_1 : Go d 60 1 L (.ref 2 :: st) (HP lx xs M) Q = Go d 60 4 L (.ref 4 :: st) (HP lx xs M) Q := go_gf rfl rfl (by decide) rfl
theorem s_60_4 : Go d 60 4 [o0, some (.int x), o2, o3] (st) h Q = Go d 60 5 [o0, some (.int x), o2, o3] (.int x :: st) h Q := go_lo (E := (.iload_n 1, 0, 0, 0)) rfl rfl rfl
theorem s_60_5 : Go d 60 5 L (st) h Q = Go d 60 6 L (.int (nI 4) :: st) h Q := go_ic rfl ci_i4
theorem s_60_6 : Go d 60 6 L (.int y :: .int x :: st) h Q = Go d 60 7 L (.int (x * y) :: st) h Q := go_op (E := (.imul, 0, 0, 0)) rfl rfl
theorem s_60_7 : Go d 60 7 [o0, o1, some (.int x), o3] (st) h Q = Go d 60 8 [o0, o1, some (.int x), o3] (.int x :: st) h Q := go_lo (E := (.iload_n 2, 0, 0, 0)) rfl rfl rfl
theorem s_60_8 : Go d 60 8 L (.int y :: .int x :: st) h Q = Go d 60 9 L (.int (x + y) :: st) h Q := go_op (E := (.iadd, 0, 0, 0)) rfl rfl
theorem s_60_9 : Go d 60 9 [o0, o1, o2, some (.int x)] (st) h Q = Go d 60 10 [o0, o1, o2, some (.int x)] (.int x :: st) h Q := go_lo (E := (.iload_n 3, 0, 0, 0)) rfl rfl rfl
theorem s_60_10 : Go d 60 10 L (.int y :: .int x :: .ref 4 :: st) (HP lx xs M) Q = (ex_in x 24 = true ∧ Go d 60 11 L (st) (HP lx xs (up M 4 x.toNatClampNeg y)) Q) := go_as rfl rfl (by decide) hs_4
theorem s_60_11 : Go d 60 11 [o0, o1, o2, some (.int x)] (st) h Q = Go d 60 12 [o0, o1, o2, some (.int x)] (.int x :: st) h Q := go_lo (E := (.iload_n 3, 0, 0, 0)) rfl rfl rfl
theorem s_60_12 : Go d 60 12 L (st) h Q = Go d 60 14 L (.int (nI 97) :: st) h Q := go_bi rfl ci_b97
theorem s_60_14 : Go d 60 14 L (.int y :: .int x :: st) h Q = (if x = y then Go d 60 17 L st h Q else Go d 60 34 L st h Q) := go_icne rfl
theorem s_60_17 : Go d 60 17 [some (.ref r), o1, o2, o3] (st) h Q = Go d 60 18 [some (.ref r), o1, o2, o3] (.ref r :: st) h Q := go_lo (E := (.aload_n 0, 0, 0, 0)) rfl rfl rfl
theorem s_60_18 : Go d 60 18 L (.ref 2 :: st) (HP lx xs M) Q = Go d 60 21 L (.ref 5 :: st) (HP lx xs M) Q := go_gf rfl rfl (by decide) rfl
theorem s_60_21 : Go d 60 21 [o0, some (.int x), o2, o3] (st) h Q = Go d 60 22 [o0, some (.int x), o2, o3] (.int x :: st) h Q := go_lo (E := (.iload_n 1, 0, 0, 0)) rfl rfl rfl
theorem s_60_22 : Go d 60 22 L (.int x :: .ref r2 :: st) h Q = Go d 60 23 L (.int x :: .ref r2 :: .int x :: .ref r2 :: st) h Q := go_op (E := (.dup2, 0, 0, 0)) rfl rfl
theorem s_60_23 : Go d 60 23 L (.int x :: .ref 5 :: st) (HP lx xs M) Q = (ex_in x 6 = true ∧ Go d 60 24 L (.int (M 5 x.toNatClampNeg) :: st) (HP lx xs M) Q) := go_al rfl rfl
theorem s_60_24 : Go d 60 24 L (st) h Q = Go d 60 25 L (.int (nI 1) :: st) h Q := go_ic rfl ci_i1
theorem s_60_25 : Go d 60 25 [o0, o1, some (.int x), o3] (st) h Q = Go d 60 26 [o0, o1, some (.int x), o3] (.int x :: st) h Q := go_lo (E := (.iload_n 2, 0, 0, 0)) rfl rfl rfl
theorem s_60_26 : Go d 60 26 L (.int y :: .int x :: st) h Q = Go d 60 27 L (.int (x <<< (y &&& 31)) :: st) h Q := go_op (E := (.ishl, 0, 0, 0)) rfl rfl
theorem s_60_27 : Go d 60 27 L (st) h Q = Go d 60 28 L (.int (-1) :: st) h Q := go_ic rfl ci_im1
theorem s_60_28 : Go d 60 28 L (.int y :: .int x :: st) h Q = Go d 60 29 L (.int (x ^^^ y) :: st) h Q := go_op (E := (.ixor, 0, 0, 0)) rfl rfl
theorem s_60_29 : Go d 60 29 L (.int y :: .int x :: st) h Q = Go d 60 30 L (.int (x &&& y) :: st) h Q := go_op (E := (.iand, 0, 0, 0)) rfl rfl
theorem s_60_30 : Go d 60 30 L (.int y :: .int x :: .ref 5 :: st) (HP lx xs M) Q = (ex_in x 6 = true ∧ Go d 60 31 L (st) (HP lx xs (up M 5 x.toNatClampNeg y)) Q) := go_as rfl rfl (by decide) hs_5
theorem s_60_31 : Go d 60 31 L (st) h Q = Go d 60 46 L (st) h Q := go_goto rfl
theorem s_60_34 : Go d 60 34 [some (.ref r), o1, o2, o3] (st) h Q = Go d 60 35 [some (.ref r), o1, o2, o3] (.ref r :: st) h Q := go_lo (E := (.aload_n 0, 0, 0, 0)) rfl rfl rfl
theorem s_60_35 : Go d 60 35 L (.ref 2 :: st) (HP lx xs M) Q = Go d 60 38 L (.ref 5 :: st) (HP lx xs M) Q := go_gf rfl rfl (by decide) rfl
theorem s_60_38 : Go d 60 38 [o0, some (.int x), o2, o3] (st) h Q = Go d 60 39 [o0, some (.int x), o2, o3] (.int x :: st) h Q := go_lo (E := (.iload_n 1, 0, 0, 0)) rfl rfl rfl
theorem s_60_39 : Go d 60 39 L (.int x :: .ref r2 :: st) h Q = Go d 60 40 L (.int x :: .ref r2 :: .int x :: .ref r2 :: st) h Q := go_op (E := (.dup2, 0, 0, 0)) rfl rfl
theorem s_60_40 : Go d 60 40 L (.int x :: .ref 5 :: st) (HP lx xs M) Q = (ex_in x 6 = true ∧ Go d 60 41 L (.int (M 5 x.toNatClampNeg) :: st) (HP lx xs M) Q) := go_al rfl rfl
theorem s_60_41 : Go d 60 41 L (st) h Q = Go d 60 42 L (.int (nI 1) :: st) h Q := go_ic rfl ci_i1
theorem s_60_42 : Go d 60 42 [o0, o1, some (.int x), o3] (st) h Q = Go d 60 43 [o0, o1, some (.int x), o3] (.int x :: st) h Q := go_lo (E := (.iload_n 2, 0, 0, 0)) rfl rfl rfl
theorem s_60_43 : Go d 60 43 L (.int y :: .int x :: st) h Q = Go d 60 44 L (.int (x <<< (y &&& 31)) :: st) h Q := go_op (E := (.ishl, 0, 0, 0)) rfl rfl
theorem s_60_44 : Go d 60 44 L (.int y :: .int x :: st) h Q = Go d 60 45 L (.int (x ||| y) :: st) h Q := go_op (E := (.ior, 0, 0, 0)) rfl rfl
theorem s_60_45 : Go d 60 45 L (.int y :: .int x :: .ref 5 :: st) (HP lx xs M) Q = (ex_in x 6 = true ∧ Go d 60 46 L (st) (HP lx xs (up M 5 x.toNatClampNeg y)) Q) := go_as rfl rfl (by decide) hs_5
theorem s_60_46 : Go d 60 46 L [] h Q = Q none h := go_rv rfl rfl
theorem s_61_0 : Go d 61 0 L (st) h Q = Go d 61 1 L (.int (nI 0) :: st) h Q := go_ic rfl ci_i0
theorem s_61_1 : Go d 61 1 [o0, o1, o2, o3] (.int x :: st) h Q = Go d 61 2 [o0, o1, o2, some (.int x)] (st) h Q := go_lo (E := (.istore_n 3, 0, 0, 0)) rfl rfl rfl
theorem s_61_2 : Go d 61 2 [o0, o1, o2, some (.int x)] (st) h Q = Go d 61 3 [o0, o1, o2, some (.int x)] (.int x :: st) h Q := go_lo (E := (.iload_n 3, 0, 0, 0)) rfl rfl rfl
theorem s_61_3 : Go d 61 3 L (st) h Q = Go d 61 4 L (.int (nI 4) :: st) h Q := go_ic rfl ci_i4
theorem s_61_4 : Go d 61 4 L (.int y :: .int x :: st) h Q = (if x < y then Go d 61 7 L st h Q else Go d 61 33 L st h Q) := go_icge rfl
theorem s_61_7 : Go d 61 7 [some (.ref r), o1, o2, o3] (st) h Q = Go d 61 8 [some (.ref r), o1, o2, o3] (.ref r :: st) h Q := go_lo (E := (.aload_n 0, 0, 0, 0)) rfl rfl rfl
theorem s_61_8 : Go d 61 8 [o0, some (.int x), o2, o3] (st) h Q = Go d 61 9 [o0, some (.int x), o2, o3] (.int x :: st) h Q := go_lo (E := (.iload_n 1, 0, 0, 0)) rfl rfl rfl
theorem s_61_9 : Go d 61 9 [o0, o1, o2, some (.int x)] (st) h Q = Go d 61 10 [o0, o1, o2, some (.int x)] (.int x :: st) h Q := go_lo (E := (.iload_n 3, 0, 0, 0)) rfl rfl rfl
theorem s_61_10 : Go d 61 10 [o0, o1, some (.int x), o3] (st) h Q = Go d 61 11 [o0, o1, some (.int x), o3] (.int x :: st) h Q := go_lo (E := (.iload_n 2, 0, 0, 0)) rfl rfl rfl
theorem s_61_11 : Go d 61 11 [o0, o1, o2, some (.int x)] (st) h Q = Go d 61 12 [o0, o1, o2, some (.int x)] (.int x :: st) h Q := go_lo (E := (.iload_n 3, 0, 0, 0)) rfl rfl rfl
theorem s_61_12 {a0 : Int32} {a1 : Int32} {z1 : Int32} {z2 : Int32} {zr0 : Nat} : Go (d + 1) 61 12 L [.int a1, .int a0, .int z2, .int z1, .ref zr0] h Q = Go d 49 0 [some (.int a0), some (.int a1)] [] h (fun v h2 => Go (d + 1) 61 15 L (ap v [.int z2, .int z1, .ref zr0]) h2 Q) := go_cx (E := (.invokestatic 60, 49, 1, 0)) (k' := 49) (as := [.int a0, .int a1]) rfl rfl rfl rfl rfl rfl rfl rfl
theorem s_61_15 : Go d 61 15 L (.int x :: st) h Q = (if x = 0 then Go d 61 22 L st h Q else Go d 61 18 L st h Q) := go_ifeq rfl
theorem s_61_18 : Go d 61 18 L (st) h Q = Go d 61 19 L (.int (nI 0) :: st) h Q := go_ic rfl ci_i0
theorem s_61_19 : Go d 61 19 L (st) h Q = Go d 61 24 L (st) h Q := go_goto rfl
theorem s_61_22 : Go d 61 22 L (st) h Q = Go d 61 24 L (.int (nI 97) :: st) h Q := go_bi rfl ci_b97
theorem s_61_24 {a1 : Int32} {a2 : Int32} {a3 : Int32} : Go (d + 1) 61 24 L [.int a3, .int a2, .int a1, .ref 2] (HP lx xs M) Q = Go d 60 0 [some (.ref 2), some (.int a1), some (.int a2), some (.int a3)] [] (HP lx xs M) (fun v h2 => Go (d + 1) 61 27 L (ap v []) h2 Q) := go_cx (E := (.invokevirtual 64, 60, 0, 3)) (k' := 60) (as := [.ref 2, .int a1, .int a2, .int a3]) rfl rfl rfl rfl rfl rfl rfl rfl
theorem s_61_27 : Go d 61 27 [o0, o1, o2, some (.int x)] (st) h Q = Go d 61 30 [o0, o1, o2, some (.int (x + nI 1))] (st) h Q := (ci_i1 ▸ go_lo (E := (.iinc 3 1, 0, 0, 0)) rfl rfl rfl : _ = Go d 61 30 [o0, o1, o2, some (.int (x + nI 1))] (st) h Q)
theorem s_61_30 : Go d 61 30 L (st) h Q = Go d 61 2 L (st) h Q := go_goto rfl
theorem s_61_33 : Go d 61 33 L [] h Q = Q none h := go_rv rfl rfl
theorem s_62_0 : Go d 62 0 [some (.ref r), o1, o2, o3] (st) h Q = Go d 62 1 [some (.ref r), o1, o2, o3] (.ref r :: st) h Q := go_lo (E := (.aload_n 0, 0, 0, 0)) rfl rfl rfl
theorem s_62_1 : Go d 62 1 L (.ref 2 :: st) (HP lx xs M) Q = Go d 62 4 L (.int (M 2 0) :: st) (HP lx xs M) Q := go_gf rfl rfl (by decide) rfl
theorem s_62_4 : Go d 62 4 L (st) h Q = Go d 62 6 L (.int (nI 6) :: st) h Q := go_bi rfl ci_b6
theorem s_62_6 : Go d 62 6 L (.int y :: .int x :: st) h Q = (if x < y then Go d 62 12 L st h Q else Go d 62 9 L st h Q) := go_iclt rfl
theorem s_62_9 : Go d 62 9 L (st) h Q = Go d 62 11 L (.int (-3) :: st) h Q := go_bi rfl ci_bm3
theorem s_62_11 : Go d 62 11 L [.int x] h Q = Q (some (.int x)) h := go_ri rfl rfl
theorem s_62_12 : Go d 62 12 [some (.ref r), o1, o2, o3] (st) h Q = Go d 62 13 [some (.ref r), o1, o2, o3] (.ref r :: st) h Q := go_lo (E := (.aload_n 0, 0, 0, 0)) rfl rfl rfl
theorem s_62_13 : Go d 62 13 L (.ref 2 :: st) (HP lx xs M) Q = Go d 62 16 L (.int (M 2 0) :: st) (HP lx xs M) Q := go_gf rfl rfl (by decide) rfl
theorem s_62_16 : Go d 62 16 [o0, o1, o2, o3] (.int x :: st) h Q = Go d 62 17 [o0, o1, some (.int x), o3] (st) h Q := go_lo (E := (.istore_n 2, 0, 0, 0)) rfl rfl rfl
theorem s_62_17 : Go d 62 17 L (st) h Q = Go d 62 18 L (.int (nI 0) :: st) h Q := go_ic rfl ci_i0
theorem s_62_18 : Go d 62 18 [o0, o1, o2, o3] (.int x :: st) h Q = Go d 62 19 [o0, o1, o2, some (.int x)] (st) h Q := go_lo (E := (.istore_n 3, 0, 0, 0)) rfl rfl rfl
theorem s_62_19 : Go d 62 19 [o0, o1, o2, some (.int x)] (st) h Q = Go d 62 20 [o0, o1, o2, some (.int x)] (.int x :: st) h Q := go_lo (E := (.iload_n 3, 0, 0, 0)) rfl rfl rfl
theorem s_62_20 : Go d 62 20 [o0, o1, some (.int x), o3] (st) h Q = Go d 62 21 [o0, o1, some (.int x), o3] (.int x :: st) h Q := go_lo (E := (.iload_n 2, 0, 0, 0)) rfl rfl rfl
theorem s_62_21 : Go d 62 21 L (.int y :: .int x :: st) h Q = (if x < y then Go d 62 24 L st h Q else Go d 62 42 L st h Q) := go_icge rfl
theorem s_62_24 : Go d 62 24 [some (.ref r), o1, o2, o3] (st) h Q = Go d 62 25 [some (.ref r), o1, o2, o3] (.ref r :: st) h Q := go_lo (E := (.aload_n 0, 0, 0, 0)) rfl rfl rfl
theorem s_62_25 : Go d 62 25 L (.ref 2 :: st) (HP lx xs M) Q = Go d 62 28 L (.ref 6 :: st) (HP lx xs M) Q := go_gf rfl rfl (by decide) rfl
theorem s_62_28 : Go d 62 28 [o0, o1, o2, some (.int x)] (st) h Q = Go d 62 29 [o0, o1, o2, some (.int x)] (.int x :: st) h Q := go_lo (E := (.iload_n 3, 0, 0, 0)) rfl rfl rfl
theorem s_62_29 : Go d 62 29 L (.int x :: .ref r2 :: st) h Q = Go d 62 30 L (.int x :: .ref r2 :: .int x :: .ref r2 :: st) h Q := go_op (E := (.dup2, 0, 0, 0)) rfl rfl
theorem s_62_30 : Go d 62 30 L (.int x :: .ref 6 :: st) (HP lx xs M) Q = (ex_in x 6 = true ∧ Go d 62 31 L (.int (M 6 x.toNatClampNeg) :: st) (HP lx xs M) Q) := go_al rfl rfl
theorem s_62_31 : Go d 62 31 L (st) h Q = Go d 62 32 L (.int (nI 1) :: st) h Q := go_ic rfl ci_i1
theorem s_62_32 : Go d 62 32 [o0, o1, some (.int x), o3] (st) h Q = Go d 62 33 [o0, o1, some (.int x), o3] (.int x :: st) h Q := go_lo (E := (.iload_n 2, 0, 0, 0)) rfl rfl rfl
theorem s_62_33 : Go d 62 33 L (.int y :: .int x :: st) h Q = Go d 62 34 L (.int (x <<< (y &&& 31)) :: st) h Q := go_op (E := (.ishl, 0, 0, 0)) rfl rfl
theorem s_62_34 : Go d 62 34 L (.int y :: .int x :: st) h Q = Go d 62 35 L (.int (x ||| y) :: st) h Q := go_op (E := (.ior, 0, 0, 0)) rfl rfl
theorem s_62_35 : Go d 62 35 L (.int y :: .int x :: .ref 6 :: st) (HP lx xs M) Q = (ex_in x 6 = true ∧ Go d 62 36 L (st) (HP lx xs (up M 6 x.toNatClampNeg y)) Q) := go_as rfl rfl (by decide) hs_6
theorem s_62_36 : Go d 62 36 [o0, o1, o2, some (.int x)] (st) h Q = Go d 62 39 [o0, o1, o2, some (.int (x + nI 1))] (st) h Q := (ci_i1 ▸ go_lo (E := (.iinc 3 1, 0, 0, 0)) rfl rfl rfl : _ = Go d 62 39 [o0, o1, o2, some (.int (x + nI 1))] (st) h Q)
theorem s_62_39 : Go d 62 39 L (st) h Q = Go d 62 19 L (st) h Q := go_goto rfl
theorem s_62_42 : Go d 62 42 [some (.ref r), o1, o2, o3] (st) h Q = Go d 62 43 [some (.ref r), o1, o2, o3] (.ref r :: st) h Q := go_lo (E := (.aload_n 0, 0, 0, 0)) rfl rfl rfl
theorem s_62_43 : Go d 62 43 L (.ref 2 :: st) (HP lx xs M) Q = Go d 62 46 L (.ref 6 :: st) (HP lx xs M) Q := go_gf rfl rfl (by decide) rfl
theorem s_62_46 : Go d 62 46 [o0, o1, some (.int x), o3] (st) h Q = Go d 62 47 [o0, o1, some (.int x), o3] (.int x :: st) h Q := go_lo (E := (.iload_n 2, 0, 0, 0)) rfl rfl rfl
theorem s_62_47 : Go d 62 47 L (st) h Q = Go d 62 48 L (.int (nI 1) :: st) h Q := go_ic rfl ci_i1
theorem s_62_48 : Go d 62 48 [o0, o1, some (.int x), o3] (st) h Q = Go d 62 49 [o0, o1, some (.int x), o3] (.int x :: st) h Q := go_lo (E := (.iload_n 2, 0, 0, 0)) rfl rfl rfl
theorem s_62_49 : Go d 62 49 L (.int y :: .int x :: st) h Q = Go d 62 50 L (.int (x <<< (y &&& 31)) :: st) h Q := go_op (E := (.ishl, 0, 0, 0)) rfl rfl
theorem s_62_50 : Go d 62 50 L (st) h Q = Go d 62 51 L (.int (nI 1) :: st) h Q := go_ic rfl ci_i1
theorem s_62_51 : Go d 62 51 L (.int y :: .int x :: st) h Q = Go d 62 52 L (.int (x - y) :: st) h Q := go_op (E := (.isub, 0, 0, 0)) rfl rfl
theorem s_62_52 : Go d 62 52 L (.int y :: .int x :: .ref 6 :: st) (HP lx xs M) Q = (ex_in x 6 = true ∧ Go d 62 53 L (st) (HP lx xs (up M 6 x.toNatClampNeg y)) Q) := go_as rfl rfl (by decide) hs_6
theorem s_62_53 : Go d 62 53 [some (.ref r), o1, o2, o3] (st) h Q = Go d 62 54 [some (.ref r), o1, o2, o3] (.ref r :: st) h Q := go_lo (E := (.aload_n 0, 0, 0, 0)) rfl rfl rfl
theorem s_62_54 : Go d 62 54 L (.ref 2 :: st) (HP lx xs M) Q = Go d 62 57 L (.ref 3 :: st) (HP lx xs M) Q := go_gf rfl rfl (by decide) rfl
theorem s_62_57 : Go d 62 57 [o0, o1, some (.int x), o3] (st) h Q = Go d 62 58 [o0, o1, some (.int x), o3] (.int x :: st) h Q := go_lo (E := (.iload_n 2, 0, 0, 0)) rfl rfl rfl
theorem s_62_58 : Go d 62 58 [o0, some (.int x), o2, o3] (st) h Q = Go d 62 59 [o0, some (.int x), o2, o3] (.int x :: st) h Q := go_lo (E := (.iload_n 1, 0, 0, 0)) rfl rfl rfl
theorem s_62_59 : Go d 62 59 L (.int y :: .int x :: .ref 3 :: st) (HP lx xs M) Q = (ex_in x 6 = true ∧ Go d 62 60 L (st) (HP lx xs (up M 3 x.toNatClampNeg y)) Q) := go_as rfl rfl (by decide) hs_3
theorem s_62_60 : Go d 62 60 [some (.ref r), o1, o2, o3] (st) h Q = Go d 62 61 [some (.ref r), o1, o2, o3] (.ref r :: st) h Q := go_lo (E := (.aload_n 0, 0, 0, 0)) rfl rfl rfl
theorem s_62_61 : Go d 62 61 [o0, o1, some (.int x), o3] (st) h Q = Go d 62 62 [o0, o1, some (.int x), o3] (.int x :: st) h Q := go_lo (E := (.iload_n 2, 0, 0, 0)) rfl rfl rfl
theorem s_62_62 : Go d 62 62 L (st) h Q = Go d 62 63 L (.int (nI 0) :: st) h Q := go_ic rfl ci_i0
theorem s_62_63 {a1 : Int32} {a2 : Int32} : Go (d + 1) 62 63 L [.int a2, .int a1, .ref 2] (HP lx xs M) Q = Go d 61 0 [some (.ref 2), some (.int a1), some (.int a2), none] [] (HP lx xs M) (fun v h2 => Go (d + 1) 62 66 L (ap v []) h2 Q) := go_cx (E := (.invokevirtual 68, 61, 0, 3)) (k' := 61) (as := [.ref 2, .int a1, .int a2]) rfl rfl rfl rfl rfl rfl rfl rfl
theorem s_62_66 : Go d 62 66 [some (.ref r), o1, o2, o3] (st) h Q = Go d 62 67 [some (.ref r), o1, o2, o3] (.ref r :: st) h Q := go_lo (E := (.aload_n 0, 0, 0, 0)) rfl rfl rfl
theorem s_62_67 : Go d 62 67 L (.ref r :: st) h Q = Go d 62 68 L (.ref r :: .ref r :: st) h Q := go_op (E := (.dup, 0, 0, 0)) rfl rfl
theorem s_62_68 : Go d 62 68 L (.ref 2 :: st) (HP lx xs M) Q = Go d 62 71 L (.int (M 2 0) :: st) (HP lx xs M) Q := go_gf rfl rfl (by decide) rfl
theorem s_62_71 : Go d 62 71 L (st) h Q = Go d 62 72 L (.int (nI 1) :: st) h Q := go_ic rfl ci_i1
theorem s_62_72 : Go d 62 72 L (.int y :: .int x :: st) h Q = Go d 62 73 L (.int (x + y) :: st) h Q := go_op (E := (.iadd, 0, 0, 0)) rfl rfl
theorem s_62_73 : Go d 62 73 L (.int x :: .ref 2 :: st) (HP lx xs M) Q = Go d 62 76 L (st) (HP lx xs (up M 2 0 x)) Q := go_pf rfl rfl (by decide) (Nat.le_of_ble_eq_true rfl) rfl hf_2_0
theorem s_62_76 : Go d 62 76 [o0, o1, some (.int x), o3] (st) h Q = Go d 62 77 [o0, o1, some (.int x), o3] (.int x :: st) h Q := go_lo (E := (.iload_n 2, 0, 0, 0)) rfl rfl rfl
theorem s_62_77 : Go d 62 77 L [.int x] h Q = Q (some (.int x)) h := go_ri rfl rfl
theorem s_63_0 : Go d 63 0 [some (.ref r)] (st) h Q = Go d 63 1 [some (.ref r)] (.ref r :: st) h Q := go_lo (E := (.aload_n 0, 0, 0, 0)) rfl rfl rfl
theorem s_63_1 : Go d 63 1 L (st) h Q = Go d 63 2 L (.int (nI 0) :: st) h Q := go_ic rfl ci_i0
theorem s_63_2 : Go d 63 2 L (.int x :: .ref 2 :: st) (HP lx xs M) Q = Go d 63 5 L (st) (HP lx xs (up M 2 0 x)) Q := go_pf rfl rfl (by decide) (Nat.le_of_ble_eq_true rfl) rfl hf_2_0
theorem s_63_5 : Go d 63 5 [some (.ref r)] (st) h Q = Go d 63 6 [some (.ref r)] (.ref r :: st) h Q := go_lo (E := (.aload_n 0, 0, 0, 0)) rfl rfl rfl
theorem s_63_6 : Go d 63 6 L (.ref 2 :: st) (HP lx xs M) Q = Go d 63 9 L (.ref 8 :: st) (HP lx xs M) Q := go_gf rfl rfl (by decide) rfl
theorem s_63_9  : Go (d + 1) 63 9 L [.ref 8] (HP lx xs M) Q = Go d 8 0 [some (.ref 8)] [] (HP lx xs M) (fun v h2 => Go (d + 1) 63 12 L (ap v []) h2 Q) := go_cx (E := (.invokevirtual 72, 8, 0, 0)) (k' := 8) (as := [.ref 8]) rfl rfl rfl rfl rfl rfl rfl rfl
theorem s_63_12 : Go d 63 12 L [] h Q = Q none h := go_rv rfl rfl
theorem s_64_0 : Go d 64 0 [some (.ref r), o1] (st) h Q = Go d 64 1 [some (.ref r), o1] (.ref r :: st) h Q := go_lo (E := (.aload_n 0, 0, 0, 0)) rfl rfl rfl
theorem s_64_1 : Go d 64 1 [o0, some (.ref r)] (st) h Q = Go d 64 2 [o0, some (.ref r)] (.ref r :: st) h Q := go_lo (E := (.aload_n 1, 0, 0, 0)) rfl rfl rfl
theorem s_64_2_2 : Go d 64 2 L (.ref 2 :: st) (HP lx xs M) Q = Go d 64 5 L (.int (M 2 0) :: st) (HP lx xs M) Q := go_gf rfl rfl (by decide) rfl
theorem s_64_2_15 : Go d 64 2 L (.ref 15 :: st) (HP lx xs M) Q = Go d 64 5 L (.int (M 15 0) :: st) (HP lx xs M) Q := go_gf rfl rfl (by decide) rfl
theorem s_64_5_2 : Go d 64 5 L (.int x :: .ref 2 :: st) (HP lx xs M) Q = Go d 64 8 L (st) (HP lx xs (up M 2 0 x)) Q := go_pf rfl rfl (by decide) (Nat.le_of_ble_eq_true rfl) rfl hf_2_0
theorem s_64_5_15 : Go d 64 5 L (.int x :: .ref 15 :: st) (HP lx xs M) Q = Go d 64 8 L (st) (HP lx xs (up M 15 0 x)) Q := go_pf rfl rfl (by decide) (Nat.le_of_ble_eq_true rfl) rfl hf_15_0
theorem s_64_8 : Go d 64 8 [some (.ref r), o1] (st) h Q = Go d 64 9 [some (.ref r), o1] (.ref r :: st) h Q := go_lo (E := (.aload_n 0, 0, 0, 0)) rfl rfl rfl
theorem s_64_9 : Go d 64 9 [o0, some (.ref r)] (st) h Q = Go d 64 10 [o0, some (.ref r)] (.ref r :: st) h Q := go_lo (E := (.aload_n 1, 0, 0, 0)) rfl rfl rfl
theorem s_64_10_2 : Go d 64 10 L (.ref 2 :: st) (HP lx xs M) Q = Go d 64 13 L (.int (M 2 1) :: st) (HP lx xs M) Q := go_gf rfl rfl (by decide) rfl
theorem s_64_10_15 : Go d 64 10 L (.ref 15 :: st) (HP lx xs M) Q = Go d 64 13 L (.int (M 15 1) :: st) (HP lx xs M) Q := go_gf rfl rfl (by decide) rfl
theorem s_64_13_2 : Go d 64 13 L (.int x :: .ref 2 :: st) (HP lx xs M) Q = Go d 64 16 L (st) (HP lx xs (up M 2 1 x)) Q := go_pf rfl rfl (by decide) (Nat.le_of_ble_eq_true rfl) rfl hf_2_1
theorem s_64_13_15 : Go d 64 13 L (.int x :: .ref 15 :: st) (HP lx xs M) Q = Go d 64 16 L (st) (HP lx xs (up M 15 1 x)) Q := go_pf rfl rfl (by decide) (Nat.le_of_ble_eq_true rfl) rfl hf_15_1
theorem s_64_16 : Go d 64 16 [some (.ref r), o1] (st) h Q = Go d 64 17 [some (.ref r), o1] (.ref r :: st) h Q := go_lo (E := (.aload_n 0, 0, 0, 0)) rfl rfl rfl
theorem s_64_17 : Go d 64 17 [o0, some (.ref r)] (st) h Q = Go d 64 18 [o0, some (.ref r)] (.ref r :: st) h Q := go_lo (E := (.aload_n 1, 0, 0, 0)) rfl rfl rfl
theorem s_64_18_2 : Go d 64 18 L (.ref 2 :: st) (HP lx xs M) Q = Go d 64 21 L (.int (M 2 2) :: st) (HP lx xs M) Q := go_gf rfl rfl (by decide) rfl
theorem s_64_18_15 : Go d 64 18 L (.ref 15 :: st) (HP lx xs M) Q = Go d 64 21 L (.int (M 15 2) :: st) (HP lx xs M) Q := go_gf rfl rfl (by decide) rfl
theorem s_64_21_2 : Go d 64 21 L (.int x :: .ref 2 :: st) (HP lx xs M) Q = Go d 64 24 L (st) (HP lx xs (up M 2 2 x)) Q := go_pf rfl rfl (by decide) (Nat.le_of_ble_eq_true rfl) rfl hf_2_2
theorem s_64_21_15 : Go d 64 21 L (.int x :: .ref 15 :: st) (HP lx xs M) Q = Go d 64 24 L (st) (HP lx xs (up M 15 2 x)) Q := go_pf rfl rfl (by decide) (Nat.le_of_ble_eq_true rfl) rfl hf_15_2
theorem s_64_24 : Go d 64 24 [o0, some (.ref r)] (st) h Q = Go d 64 25 [o0, some (.ref r)] (.ref r :: st) h Q := go_lo (E := (.aload_n 1, 0, 0, 0)) rfl rfl rfl
theorem s_64_25_2 : Go d 64 25 L (.ref 2 :: st) (HP lx xs M) Q = Go d 64 28 L (.ref 3 :: st) (HP lx xs M) Q := go_gf rfl rfl (by decide) rfl
theorem s_64_25_15 : Go d 64 25 L (.ref 15 :: st) (HP lx xs M) Q = Go d 64 28 L (.ref 16 :: st) (HP lx xs M) Q := go_gf rfl rfl (by decide) rfl
theorem s_64_28 : Go d 64 28 L (st) h Q = Go d 64 29 L (.int (nI 0) :: st) h Q := go_ic rfl ci_i0
theorem s_64_29 : Go d 64 29 [some (.ref r), o1] (st) h Q = Go d 64 30 [some (.ref r), o1] (.ref r :: st) h Q := go_lo (E := (.aload_n 0, 0, 0, 0)) rfl rfl rfl
theorem s_64_30_2 : Go d 64 30 L (.ref 2 :: st) (HP lx xs M) Q = Go d 64 33 L (.ref 3 :: st) (HP lx xs M) Q := go_gf rfl rfl (by decide) rfl
theorem s_64_30_15 : Go d 64 30 L (.ref 15 :: st) (HP lx xs M) Q = Go d 64 33 L (.ref 16 :: st) (HP lx xs M) Q := go_gf rfl rfl (by decide) rfl
theorem s_64_33 : Go d 64 33 L (st) h Q = Go d 64 34 L (.int (nI 0) :: st) h Q := go_ic rfl ci_i0
theorem s_64_34 : Go d 64 34 L (st) h Q = Go d 64 36 L (.int (nI 6) :: st) h Q := go_bi rfl ci_b6
theorem s_64_39 : Go d 64 39 [o0, some (.ref r)] (st) h Q = Go d 64 40 [o0, some (.ref r)] (.ref r :: st) h Q := go_lo (E := (.aload_n 1, 0, 0, 0)) rfl rfl rfl
theorem s_64_40_2 : Go d 64 40 L (.ref 2 :: st) (HP lx xs M) Q = Go d 64 43 L (.ref 4 :: st) (HP lx xs M) Q := go_gf rfl rfl (by decide) rfl
theorem s_64_40_15 : Go d 64 40 L (.ref 15 :: st) (HP lx xs M) Q = Go d 64 43 L (.ref 17 :: st) (HP lx xs M) Q := go_gf rfl rfl (by decide) rfl
theorem s_64_43 : Go d 64 43 L (st) h Q = Go d 64 44 L (.int (nI 0) :: st) h Q := go_ic rfl ci_i0
theorem s_64_44 : Go d 64 44 [some (.ref r), o1] (st) h Q = Go d 64 45 [some (.ref r), o1] (.ref r :: st) h Q := go_lo (E := (.aload_n 0, 0, 0, 0)) rfl rfl rfl
theorem s_64_45_2 : Go d 64 45 L (.ref 2 :: st) (HP lx xs M) Q = Go d 64 48 L (.ref 4 :: st) (HP lx xs M) Q := go_gf rfl rfl (by decide) rfl
theorem s_64_45_15 : Go d 64 45 L (.ref 15 :: st) (HP lx xs M) Q = Go d 64 48 L (.ref 17 :: st) (HP lx xs M) Q := go_gf rfl rfl (by decide) rfl
theorem s_64_48 : Go d 64 48 L (st) h Q = Go d 64 49 L (.int (nI 0) :: st) h Q := go_ic rfl ci_i0
theorem s_64_49 : Go d 64 49 L (st) h Q = Go d 64 51 L (.int (nI 24) :: st) h Q := go_bi rfl ci_b24
theorem s_64_54 : Go d 64 54 [o0, some (.ref r)] (st) h Q = Go d 64 55 [o0, some (.ref r)] (.ref r :: st) h Q := go_lo (E := (.aload_n 1, 0, 0, 0)) rfl rfl rfl
theorem s_64_55_2 : Go d 64 55 L (.ref 2 :: st) (HP lx xs M) Q = Go d 64 58 L (.ref 5 :: st) (HP lx xs M) Q := go_gf rfl rfl (by decide) rfl
theorem s_64_55_15 : Go d 64 55 L (.ref 15 :: st) (HP lx xs M) Q = Go d 64 58 L (.ref 18 :: st) (HP lx xs M) Q := go_gf rfl rfl (by decide) rfl
theorem s_64_58 : Go d 64 58 L (st) h Q = Go d 64 59 L (.int (nI 0) :: st) h Q := go_ic rfl ci_i0
theorem s_64_59 : Go d 64 59 [some (.ref r), o1] (st) h Q = Go d 64 60 [some (.ref r), o1] (.ref r :: st) h Q := go_lo (E := (.aload_n 0, 0, 0, 0)) rfl rfl rfl
theorem s_64_60_2 : Go d 64 60 L (.ref 2 :: st) (HP lx xs M) Q = Go d 64 63 L (.ref 5 :: st) (HP lx xs M) Q := go_gf rfl rfl (by decide) rfl
theorem s_64_60_15 : Go d 64 60 L (.ref 15 :: st) (HP lx xs M) Q = Go d 64 63 L (.ref 18 :: st) (HP lx xs M) Q := go_gf rfl rfl (by decide) rfl
theorem s_64_63 : Go d 64 63 L (st) h Q = Go d 64 64 L (.int (nI 0) :: st) h Q := go_ic rfl ci_i0
theorem s_64_64 : Go d 64 64 L (st) h Q = Go d 64 66 L (.int (nI 6) :: st) h Q := go_bi rfl ci_b6
theorem s_64_69 : Go d 64 69 [o0, some (.ref r)] (st) h Q = Go d 64 70 [o0, some (.ref r)] (.ref r :: st) h Q := go_lo (E := (.aload_n 1, 0, 0, 0)) rfl rfl rfl
theorem s_64_70_2 : Go d 64 70 L (.ref 2 :: st) (HP lx xs M) Q = Go d 64 73 L (.ref 6 :: st) (HP lx xs M) Q := go_gf rfl rfl (by decide) rfl
theorem s_64_70_15 : Go d 64 70 L (.ref 15 :: st) (HP lx xs M) Q = Go d 64 73 L (.ref 19 :: st) (HP lx xs M) Q := go_gf rfl rfl (by decide) rfl
theorem s_64_73 : Go d 64 73 L (st) h Q = Go d 64 74 L (.int (nI 0) :: st) h Q := go_ic rfl ci_i0
theorem s_64_74 : Go d 64 74 [some (.ref r), o1] (st) h Q = Go d 64 75 [some (.ref r), o1] (.ref r :: st) h Q := go_lo (E := (.aload_n 0, 0, 0, 0)) rfl rfl rfl
theorem s_64_75_2 : Go d 64 75 L (.ref 2 :: st) (HP lx xs M) Q = Go d 64 78 L (.ref 6 :: st) (HP lx xs M) Q := go_gf rfl rfl (by decide) rfl
theorem s_64_75_15 : Go d 64 75 L (.ref 15 :: st) (HP lx xs M) Q = Go d 64 78 L (.ref 19 :: st) (HP lx xs M) Q := go_gf rfl rfl (by decide) rfl
theorem s_64_78 : Go d 64 78 L (st) h Q = Go d 64 79 L (.int (nI 0) :: st) h Q := go_ic rfl ci_i0
theorem s_64_79 : Go d 64 79 L (st) h Q = Go d 64 81 L (.int (nI 6) :: st) h Q := go_bi rfl ci_b6
theorem s_64_84 : Go d 64 84 [o0, some (.ref r)] (st) h Q = Go d 64 85 [o0, some (.ref r)] (.ref r :: st) h Q := go_lo (E := (.aload_n 1, 0, 0, 0)) rfl rfl rfl
theorem s_64_85_2 : Go d 64 85 L (.ref 2 :: st) (HP lx xs M) Q = Go d 64 88 L (.ref 7 :: st) (HP lx xs M) Q := go_gf rfl rfl (by decide) rfl
theorem s_64_85_15 : Go d 64 85 L (.ref 15 :: st) (HP lx xs M) Q = Go d 64 88 L (.ref 20 :: st) (HP lx xs M) Q := go_gf rfl rfl (by decide) rfl
theorem s_64_88 : Go d 64 88 L (st) h Q = Go d 64 89 L (.int (nI 0) :: st) h Q := go_ic rfl ci_i0
theorem s_64_89 : Go d 64 89 [some (.ref r), o1] (st) h Q = Go d 64 90 [some (.ref r), o1] (.ref r :: st) h Q := go_lo (E := (.aload_n 0, 0, 0, 0)) rfl rfl rfl
theorem s_64_90_2 : Go d 64 90 L (.ref 2 :: st) (HP lx xs M) Q = Go d 64 93 L (.ref 7 :: st) (HP lx xs M) Q := go_gf rfl rfl (by decide) rfl
theorem s_64_90_15 : Go d 64 90 L (.ref 15 :: st) (HP lx xs M) Q = Go d 64 93 L (.ref 20 :: st) (HP lx xs M) Q := go_gf rfl rfl (by decide) rfl
theorem s_64_93 : Go d 64 93 L (st) h Q = Go d 64 94 L (.int (nI 0) :: st) h Q := go_ic rfl ci_i0
theorem s_64_94 : Go d 64 94 L (st) h Q = Go d 64 95 L (.int (nI 4) :: st) h Q := go_ic rfl ci_i4
theorem s_64_98 : Go d 64 98 [some (.ref r), o1] (st) h Q = Go d 64 99 [some (.ref r), o1] (.ref r :: st) h Q := go_lo (E := (.aload_n 0, 0, 0, 0)) rfl rfl rfl
theorem s_64_99_2 : Go d 64 99 L (.ref 2 :: st) (HP lx xs M) Q = Go d 64 102 L (.ref 8 :: st) (HP lx xs M) Q := go_gf rfl rfl (by decide) rfl
theorem s_64_99_15 : Go d 64 99 L (.ref 15 :: st) (HP lx xs M) Q = Go d 64 102 L (.ref 21 :: st) (HP lx xs M) Q := go_gf rfl rfl (by decide) rfl
theorem s_64_102 : Go d 64 102 [o0, some (.ref r)] (st) h Q = Go d 64 103 [o0, some (.ref r)] (.ref r :: st) h Q := go_lo (E := (.aload_n 1, 0, 0, 0)) rfl rfl rfl
theorem s_64_103_2 : Go d 64 103 L (.ref 2 :: st) (HP lx xs M) Q = Go d 64 106 L (.ref 8 :: st) (HP lx xs M) Q := go_gf rfl rfl (by decide) rfl
theorem s_64_103_15 : Go d 64 103 L (.ref 15 :: st) (HP lx xs M) Q = Go d 64 106 L (.ref 21 :: st) (HP lx xs M) Q := go_gf rfl rfl (by decide) rfl
theorem s_64_106_8 {ar1 : Nat} : Go (d + 1) 64 106 L [.ref ar1, .ref 8] (HP lx xs M) Q = Go d 11 0 [some (.ref 8), some (.ref ar1), none] [] (HP lx xs M) (fun v h2 => Go (d + 1) 64 109 L (ap v []) h2 Q) := go_cx (E := (.invokevirtual 84, 11, 0, 0)) (k' := 11) (as := [.ref 8, .ref ar1]) rfl rfl rfl rfl rfl rfl rfl rfl
theorem s_64_106_21 {ar1 : Nat} : Go (d + 1) 64 106 L [.ref ar1, .ref 21] (HP lx xs M) Q = Go d 11 0 [some (.ref 21), some (.ref ar1), none] [] (HP lx xs M) (fun v h2 => Go (d + 1) 64 109 L (ap v []) h2 Q) := go_cx (E := (.invokevirtual 84, 11, 0, 0)) (k' := 11) (as := [.ref 21, .ref ar1]) rfl rfl rfl rfl rfl rfl rfl rfl
theorem s_64_109 : Go d 64 109 L [] h Q = Q none h := go_rv rfl rfl
theorem s_65_0 : Go d 65 0 L (st) h Q = Go d 65 1 L (.int (nI 0) :: st) h Q := go_ic rfl ci_i0
theorem s_65_1 : Go d 65 1 [o0, o1, o2, o3] (.int x :: st) h Q = Go d 65 2 [o0, o1, some (.int x), o3] (st) h Q := go_lo (E := (.istore_n 2, 0, 0, 0)) rfl rfl rfl
theorem s_65_2 : Go d 65 2 L (st) h Q = Go d 65 3 L (.int (nI 0) :: st) h Q := go_ic rfl ci_i0
theorem s_65_3 : Go d 65 3 [o0, o1, o2, o3] (.int x :: st) h Q = Go d 65 4 [o0, o1, o2, some (.int x)] (st) h Q := go_lo (E := (.istore_n 3, 0, 0, 0)) rfl rfl rfl
theorem s_65_4 : Go d 65 4 [o0, o1, o2, some (.int x)] (st) h Q = Go d 65 5 [o0, o1, o2, some (.int x)] (.int x :: st) h Q := go_lo (E := (.iload_n 3, 0, 0, 0)) rfl rfl rfl
theorem s_65_5 : Go d 65 5 [some (.ref r), o1, o2, o3] (st) h Q = Go d 65 6 [some (.ref r), o1, o2, o3] (.ref r :: st) h Q := go_lo (E := (.aload_n 0, 0, 0, 0)) rfl rfl rfl
theorem s_65_6 : Go d 65 6 L (.ref 2 :: st) (HP lx xs M) Q = Go d 65 9 L (.int (M 2 0) :: st) (HP lx xs M) Q := go_gf rfl rfl (by decide) rfl
theorem s_65_9 : Go d 65 9 L (.int y :: .int x :: st) h Q = (if x < y then Go d 65 12 L st h Q else Go d 65 32 L st h Q) := go_icge rfl
theorem s_65_12 : Go d 65 12 [o0, o1, some (.int x), o3] (st) h Q = Go d 65 13 [o0, o1, some (.int x), o3] (.int x :: st) h Q := go_lo (E := (.iload_n 2, 0, 0, 0)) rfl rfl rfl
theorem s_65_13 : Go d 65 13 [some (.ref r), o1, o2, o3] (st) h Q = Go d 65 14 [some (.ref r), o1, o2, o3] (.ref r :: st) h Q := go_lo (E := (.aload_n 0, 0, 0, 0)) rfl rfl rfl
theorem s_65_14 : Go d 65 14 L (.ref 2 :: st) (HP lx xs M) Q = Go d 65 17 L (.ref 5 :: st) (HP lx xs M) Q := go_gf rfl rfl (by decide) rfl
theorem s_65_17 : Go d 65 17 [o0, o1, o2, some (.int x)] (st) h Q = Go d 65 18 [o0, o1, o2, some (.int x)] (.int x :: st) h Q := go_lo (E := (.iload_n 3, 0, 0, 0)) rfl rfl rfl
theorem s_65_18 : Go d 65 18 L (.int x :: .ref 5 :: st) (HP lx xs M) Q = (ex_in x 6 = true ∧ Go d 65 19 L (.int (M 5 x.toNatClampNeg) :: st) (HP lx xs M) Q) := go_al rfl rfl
theorem s_65_19 : Go d 65 19 [o0, some (.int x), o2, o3] (st) h Q = Go d 65 20 [o0, some (.int x), o2, o3] (.int x :: st) h Q := go_lo (E := (.iload_n 1, 0, 0, 0)) rfl rfl rfl
theorem s_65_20 : Go d 65 20 L (.int y :: .int x :: st) h Q = Go d 65 21 L (.int (x &&& y) :: st) h Q := go_op (E := (.iand, 0, 0, 0)) rfl rfl
theorem s_65_21 {a0 : Int32} {z0 : Int32} : Go (d + 1) 65 21 L [.int a0, .int z0] h Q = Go d 12 0 [some (.int a0)] [] h (fun v h2 => Go (d + 1) 65 24 L (ap v [.int z0]) h2 Q) := go_cx (E := (.invokestatic 88, 12, 0, 0)) (k' := 12) (as := [.int a0]) rfl rfl rfl rfl rfl rfl rfl rfl
theorem s_65_24 : Go d 65 24 L (.int y :: .int x :: st) h Q = Go d 65 25 L (.int (x + y) :: st) h Q := go_op (E := (.iadd, 0, 0, 0)) rfl rfl
theorem s_65_25 : Go d 65 25 [o0, o1, o2, o3] (.int x :: st) h Q = Go d 65 26 [o0, o1, some (.int x), o3] (st) h Q := go_lo (E := (.istore_n 2, 0, 0, 0)) rfl rfl rfl
theorem s_65_26 : Go d 65 26 [o0, o1, o2, some (.int x)] (st) h Q = Go d 65 29 [o0, o1, o2, some (.int (x + nI 1))] (st) h Q := (ci_i1 ▸ go_lo (E := (.iinc 3 1, 0, 0, 0)) rfl rfl rfl : _ = Go d 65 29 [o0, o1, o2, some (.int (x + nI 1))] (st) h Q)
theorem s_65_29 : Go d 65 29 L (st) h Q = Go d 65 4 L (st) h Q := go_goto rfl
theorem s_65_32 : Go d 65 32 [o0, o1, some (.int x), o3] (st) h Q = Go d 65 33 [o0, o1, some (.int x), o3] (.int x :: st) h Q := go_lo (E := (.iload_n 2, 0, 0, 0)) rfl rfl rfl
theorem s_65_33 : Go d 65 33 L [.int x] h Q = Q (some (.int x)) h := go_ri rfl rfl
theorem s_66_0 : Go d 66 0 L (st) h Q = Go d 66 1 L (.int (nI 0) :: st) h Q := go_ic rfl ci_i0
theorem s_66_1 : Go d 66 1 [o0, o1, o2] (.int x :: st) h Q = Go d 66 2 [o0, some (.int x), o2] (st) h Q := go_lo (E := (.istore_n 1, 0, 0, 0)) rfl rfl rfl
theorem s_66_2 : Go d 66 2 L (st) h Q = Go d 66 3 L (.int (nI 0) :: st) h Q := go_ic rfl ci_i0
theorem s_66_3 : Go d 66 3 [o0, o1, o2] (.int x :: st) h Q = Go d 66 4 [o0, o1, some (.int x)] (st) h Q := go_lo (E := (.istore_n 2, 0, 0, 0)) rfl rfl rfl
theorem s_66_4 : Go d 66 4 [o0, o1, some (.int x)] (st) h Q = Go d 66 5 [o0, o1, some (.int x)] (.int x :: st) h Q := go_lo (E := (.iload_n 2, 0, 0, 0)) rfl rfl rfl
theorem s_66_5 : Go d 66 5 [some (.ref r), o1, o2] (st) h Q = Go d 66 6 [some (.ref r), o1, o2] (.ref r :: st) h Q := go_lo (E := (.aload_n 0, 0, 0, 0)) rfl rfl rfl
theorem s_66_6 : Go d 66 6 L (.ref 2 :: st) (HP lx xs M) Q = Go d 66 9 L (.int (M 2 0) :: st) (HP lx xs M) Q := go_gf rfl rfl (by decide) rfl
theorem s_66_9 : Go d 66 9 L (st) h Q = Go d 66 10 L (.int (nI 4) :: st) h Q := go_ic rfl ci_i4
theorem s_66_10 : Go d 66 10 L (.int y :: .int x :: st) h Q = Go d 66 11 L (.int (x * y) :: st) h Q := go_op (E := (.imul, 0, 0, 0)) rfl rfl
theorem s_66_11 : Go d 66 11 L (.int y :: .int x :: st) h Q = (if x < y then Go d 66 14 L st h Q else Go d 66 43 L st h Q) := go_icge rfl
theorem s_66_14 : Go d 66 14 [some (.ref r), o1, o2] (st) h Q = Go d 66 15 [some (.ref r), o1, o2] (.ref r :: st) h Q := go_lo (E := (.aload_n 0, 0, 0, 0)) rfl rfl rfl
theorem s_66_15 : Go d 66 15 L (.ref 2 :: st) (HP lx xs M) Q = Go d 66 18 L (.ref 4 :: st) (HP lx xs M) Q := go_gf rfl rfl (by decide) rfl
theorem s_66_18 : Go d 66 18 [o0, o1, some (.int x)] (st) h Q = Go d 66 19 [o0, o1, some (.int x)] (.int x :: st) h Q := go_lo (E := (.iload_n 2, 0, 0, 0)) rfl rfl rfl
theorem s_66_19 : Go d 66 19 L (.int x :: .ref 4 :: st) (HP lx xs M) Q = (ex_in x 24 = true ∧ Go d 66 20 L (.int (M 4 x.toNatClampNeg) :: st) (HP lx xs M) Q) := go_al rfl rfl
theorem s_66_20 : Go d 66 20 L (.int x :: st) h Q = (if x = 0 then Go d 66 37 L st h Q else Go d 66 23 L st h Q) := go_ifeq rfl
theorem s_66_23 : Go d 66 23 [some (.ref r), o1, o2] (st) h Q = Go d 66 24 [some (.ref r), o1, o2] (.ref r :: st) h Q := go_lo (E := (.aload_n 0, 0, 0, 0)) rfl rfl rfl
theorem s_66_24 : Go d 66 24 L (.ref 2 :: st) (HP lx xs M) Q = Go d 66 27 L (.ref 4 :: st) (HP lx xs M) Q := go_gf rfl rfl (by decide) rfl
theorem s_66_27 : Go d 66 27 [o0, o1, some (.int x)] (st) h Q = Go d 66 28 [o0, o1, some (.int x)] (.int x :: st) h Q := go_lo (E := (.iload_n 2, 0, 0, 0)) rfl rfl rfl
theorem s_66_28 : Go d 66 28 L (.int x :: .ref 4 :: st) (HP lx xs M) Q = (ex_in x 24 = true ∧ Go d 66 29 L (.int (M 4 x.toNatClampNeg) :: st) (HP lx xs M) Q) := go_al rfl rfl
theorem s_66_29 : Go d 66 29 L (st) h Q = Go d 66 31 L (.int (nI 97) :: st) h Q := go_bi rfl ci_b97
theorem s_66_31 : Go d 66 31 L (.int y :: .int x :: st) h Q = (if x = y then Go d 66 37 L st h Q else Go d 66 34 L st h Q) := go_iceq rfl
theorem s_66_34 : Go d 66 34 [o0, some (.int x), o2] (st) h Q = Go d 66 37 [o0, some (.int (x + nI 1)), o2] (st) h Q := (ci_i1 ▸ go_lo (E := (.iinc 1 1, 0, 0, 0)) rfl rfl rfl : _ = Go d 66 37 [o0, some (.int (x + nI 1)), o2] (st) h Q)
theorem s_66_37 : Go d 66 37 [o0, o1, some (.int x)] (st) h Q = Go d 66 40 [o0, o1, some (.int (x + nI 1))] (st) h Q := (ci_i1 ▸ go_lo (E := (.iinc 2 1, 0, 0, 0)) rfl rfl rfl : _ = Go d 66 40 [o0, o1, some (.int (x + nI 1))] (st) h Q)
theorem s_66_40 : Go d 66 40 L (st) h Q = Go d 66 4 L (st) h Q := go_goto rfl
theorem s_66_43 : Go d 66 43 [o0, some (.int x), o2] (st) h Q = Go d 66 44 [o0, some (.int x), o2] (.int x :: st) h Q := go_lo (E := (.iload_n 1, 0, 0, 0)) rfl rfl rfl
theorem s_66_44 : Go d 66 44 L [.int x] h Q = Q (some (.int x)) h := go_ri rfl rfl
theorem s_67_0 : Go d 67 0 [o0, o1, some (.int x), o3, o4, o5] (st) h Q = Go d 67 1 [o0, o1, some (.int x), o3, o4, o5] (.int x :: st) h Q := go_lo (E := (.iload_n 2, 0, 0, 0)) rfl rfl rfl
theorem s_67_1 {a0 : Int32} : Go (d + 1) 67 1 L [.int a0] h Q = Go d 52 0 [some (.int a0)] [] h (fun v h2 => Go (d + 1) 67 4 L (ap v []) h2 Q) := go_cx (E := (.invokestatic 94, 52, 1, 0)) (k' := 52) (as := [.int a0]) rfl rfl rfl rfl rfl rfl rfl rfl
theorem s_67_4 : Go d 67 4 [o0, o1, o2, o3, o4, o5] (.int x :: st) h Q = Go d 67 5 [o0, o1, o2, some (.int x), o4, o5] (st) h Q := go_lo (E := (.istore_n 3, 0, 0, 0)) rfl rfl rfl
theorem s_67_5 : Go d 67 5 [o0, o1, some (.int x), o3, o4, o5] (st) h Q = Go d 67 6 [o0, o1, some (.int x), o3, o4, o5] (.int x :: st) h Q := go_lo (E := (.iload_n 2, 0, 0, 0)) rfl rfl rfl
theorem s_67_6 {a0 : Int32} : Go (d + 1) 67 6 L [.int a0] h Q = Go d 53 0 [some (.int a0)] [] h (fun v h2 => Go (d + 1) 67 9 L (ap v []) h2 Q) := go_cx (E := (.invokestatic 97, 53, 1, 0)) (k' := 53) (as := [.int a0]) rfl rfl rfl rfl rfl rfl rfl rfl
theorem s_67_9 : Go d 67 9 [o0, o1, o2, o3, o4, o5] (.int x :: st) h Q = Go d 67 11 [o0, o1, o2, o3, some (.int x), o5] (st) h Q := go_lo (E := (.istore 4, 0, 0, 0)) rfl rfl rfl
theorem s_67_11 : Go d 67 11 [o0, o1, some (.int x), o3, o4, o5] (st) h Q = Go d 67 12 [o0, o1, some (.int x), o3, o4, o5] (.int x :: st) h Q := go_lo (E := (.iload_n 2, 0, 0, 0)) rfl rfl rfl
theorem s_67_12 {a0 : Int32} : Go (d + 1) 67 12 L [.int a0] h Q = Go d 54 0 [some (.int a0)] [] h (fun v h2 => Go (d + 1) 67 15 L (ap v []) h2 Q) := go_cx (E := (.invokestatic 100, 54, 1, 0)) (k' := 54) (as := [.int a0]) rfl rfl rfl rfl rfl rfl rfl rfl
theorem s_67_15 : Go d 67 15 [o0, o1, o2, o3, o4, o5] (.int x :: st) h Q = Go d 67 17 [o0, o1, o2, o3, o4, some (.int x)] (st) h Q := go_lo (E := (.istore 5, 0, 0, 0)) rfl rfl rfl
theorem s_67_17 : Go d 67 17 [o0, some (.ref r), o2, o3, o4, o5] (st) h Q = Go d 67 18 [o0, some (.ref r), o2, o3, o4, o5] (.ref r :: st) h Q := go_lo (E := (.aload_n 1, 0, 0, 0)) rfl rfl rfl
theorem s_67_18 : Go d 67 18 [o0, o1, o2, some (.int x), o4, o5] (st) h Q = Go d 67 19 [o0, o1, o2, some (.int x), o4, o5] (.int x :: st) h Q := go_lo (E := (.iload_n 3, 0, 0, 0)) rfl rfl rfl
theorem s_67_19_5 : Go d 67 19 L (.int x :: .ref 5 :: st) (HP lx xs M) Q = (ex_in x 6 = true ∧ Go d 67 20 L (.int (M 5 x.toNatClampNeg) :: st) (HP lx xs M) Q) := go_al rfl rfl
theorem s_67_19_11 : Go d 67 19 L (.int x :: .ref 11 :: st) (HP lx xs M) Q = (ex_in x 6 = true ∧ Go d 67 20 L (.int (M 11 x.toNatClampNeg) :: st) (HP lx xs M) Q) := go_al rfl rfl
theorem s_67_19_12 : Go d 67 19 L (.int x :: .ref 12 :: st) (HP lx xs M) Q = (ex_in x 6 = true ∧ Go d 67 20 L (.int (M 12 x.toNatClampNeg) :: st) (HP lx xs M) Q) := go_al rfl rfl
theorem s_67_20 : Go d 67 20 [o0, o1, o2, o3, o4, some (.int x)] (st) h Q = Go d 67 22 [o0, o1, o2, o3, o4, some (.int x)] (.int x :: st) h Q := go_lo (E := (.iload 5, 0, 0, 0)) rfl rfl rfl
theorem s_67_22 {a0 : Int32} {a1 : Int32} : Go (d + 1) 67 22 L [.int a1, .int a0] h Q = Go d 49 0 [some (.int a0), some (.int a1)] [] h (fun v h2 => Go (d + 1) 67 25 L (ap v []) h2 Q) := go_cx (E := (.invokestatic 60, 49, 1, 0)) (k' := 49) (as := [.int a0, .int a1]) rfl rfl rfl rfl rfl rfl rfl rfl
theorem s_67_25 : Go d 67 25 L (.int x :: st) h Q = (if x = 0 then Go d 67 75 L st h Q else Go d 67 28 L st h Q) := go_ifeq rfl
theorem s_67_28 : Go d 67 28 [o0, some (.ref r), o2, o3, o4, o5] (st) h Q = Go d 67 29 [o0, some (.ref r), o2, o3, o4, o5] (.ref r :: st) h Q := go_lo (E := (.aload_n 1, 0, 0, 0)) rfl rfl rfl
theorem s_67_29 : Go d 67 29 [o0, o1, o2, o3, some (.int x), o5] (st) h Q = Go d 67 31 [o0, o1, o2, o3, some (.int x), o5] (.int x :: st) h Q := go_lo (E := (.iload 4, 0, 0, 0)) rfl rfl rfl
theorem s_67_31_5 : Go d 67 31 L (.int x :: .ref 5 :: st) (HP lx xs M) Q = (ex_in x 6 = true ∧ Go d 67 32 L (.int (M 5 x.toNatClampNeg) :: st) (HP lx xs M) Q) := go_al rfl rfl
theorem s_67_31_11 : Go d 67 31 L (.int x :: .ref 11 :: st) (HP lx xs M) Q = (ex_in x 6 = true ∧ Go d 67 32 L (.int (M 11 x.toNatClampNeg) :: st) (HP lx xs M) Q) := go_al rfl rfl
theorem s_67_31_12 : Go d 67 31 L (.int x :: .ref 12 :: st) (HP lx xs M) Q = (ex_in x 6 = true ∧ Go d 67 32 L (.int (M 12 x.toNatClampNeg) :: st) (HP lx xs M) Q) := go_al rfl rfl
theorem s_67_32 : Go d 67 32 [o0, o1, o2, o3, o4, some (.int x)] (st) h Q = Go d 67 34 [o0, o1, o2, o3, o4, some (.int x)] (.int x :: st) h Q := go_lo (E := (.iload 5, 0, 0, 0)) rfl rfl rfl
theorem s_67_34 {a0 : Int32} {a1 : Int32} : Go (d + 1) 67 34 L [.int a1, .int a0] h Q = Go d 49 0 [some (.int a0), some (.int a1)] [] h (fun v h2 => Go (d + 1) 67 37 L (ap v []) h2 Q) := go_cx (E := (.invokestatic 60, 49, 1, 0)) (k' := 49) (as := [.int a0, .int a1]) rfl rfl rfl rfl rfl rfl rfl rfl
theorem s_67_37 : Go d 67 37 L (.int x :: st) h Q = (if x = 0 then Go d 67 40 L st h Q else Go d 67 75 L st h Q) := go_ifne rfl
theorem s_67_40 : Go d 67 40 [some (.ref r), o1, o2, o3, o4, o5] (st) h Q = Go d 67 41 [some (.ref r), o1, o2, o3, o4, o5] (.ref r :: st) h Q := go_lo (E := (.aload_n 0, 0, 0, 0)) rfl rfl rfl
theorem s_67_41 : Go d 67 41 L (.ref 2 :: st) (HP lx xs M) Q = Go d 67 44 L (.ref 7 :: st) (HP lx xs M) Q := go_gf rfl rfl (by decide) rfl
theorem s_67_44 : Go d 67 44 [o0, o1, o2, o3, o4, some (.int x)] (st) h Q = Go d 67 46 [o0, o1, o2, o3, o4, some (.int x)] (.int x :: st) h Q := go_lo (E := (.iload 5, 0, 0, 0)) rfl rfl rfl
theorem s_67_46 : Go d 67 46 L (.int x :: .ref 7 :: st) (HP lx xs M) Q = (ex_in x 4 = true ∧ Go d 67 47 L (.int (M 7 x.toNatClampNeg) :: st) (HP lx xs M) Q) := go_al rfl rfl
theorem s_67_47 : Go d 67 47 [o0, some (.ref r), o2, o3, o4, o5] (st) h Q = Go d 67 48 [o0, some (.ref r), o2, o3, o4, o5] (.ref r :: st) h Q := go_lo (E := (.aload_n 1, 0, 0, 0)) rfl rfl rfl
theorem s_67_48 : Go d 67 48 [o0, o1, o2, o3, some (.int x), o5] (st) h Q = Go d 67 50 [o0, o1, o2, o3, some (.int x), o5] (.int x :: st) h Q := go_lo (E := (.iload 4, 0, 0, 0)) rfl rfl rfl
theorem s_67_50_5 : Go d 67 50 L (.int x :: .ref 5 :: st) (HP lx xs M) Q = (ex_in x 6 = true ∧ Go d 67 51 L (.int (M 5 x.toNatClampNeg) :: st) (HP lx xs M) Q) := go_al rfl rfl
theorem s_67_50_11 : Go d 67 50 L (.int x :: .ref 11 :: st) (HP lx xs M) Q = (ex_in x 6 = true ∧ Go d 67 51 L (.int (M 11 x.toNatClampNeg) :: st) (HP lx xs M) Q) := go_al rfl rfl
theorem s_67_50_12 : Go d 67 50 L (.int x :: .ref 12 :: st) (HP lx xs M) Q = (ex_in x 6 = true ∧ Go d 67 51 L (.int (M 12 x.toNatClampNeg) :: st) (HP lx xs M) Q) := go_al rfl rfl
theorem s_67_51 : Go d 67 51 L (st) h Q = Go d 67 52 L (.int (-1) :: st) h Q := go_ic rfl ci_im1
theorem s_67_52 : Go d 67 52 L (.int y :: .int x :: st) h Q = Go d 67 53 L (.int (x ^^^ y) :: st) h Q := go_op (E := (.ixor, 0, 0, 0)) rfl rfl
theorem s_67_53 : Go d 67 53 L (.int y :: .int x :: st) h Q = Go d 67 54 L (.int (x &&& y) :: st) h Q := go_op (E := (.iand, 0, 0, 0)) rfl rfl
theorem s_67_54 : Go d 67 54 L (.int x :: st) h Q = (if x = 0 then Go d 67 57 L st h Q else Go d 67 75 L st h Q) := go_ifne rfl
theorem s_67_57 : Go d 67 57 [some (.ref r), o1, o2, o3, o4, o5] (st) h Q = Go d 67 58 [some (.ref r), o1, o2, o3, o4, o5] (.ref r :: st) h Q := go_lo (E := (.aload_n 0, 0, 0, 0)) rfl rfl rfl
theorem s_67_58 : Go d 67 58 L (.ref 2 :: st) (HP lx xs M) Q = Go d 67 61 L (.ref 6 :: st) (HP lx xs M) Q := go_gf rfl rfl (by decide) rfl
theorem s_67_61 : Go d 67 61 [o0, o1, o2, o3, some (.int x), o5] (st) h Q = Go d 67 63 [o0, o1, o2, o3, some (.int x), o5] (.int x :: st) h Q := go_lo (E := (.iload 4, 0, 0, 0)) rfl rfl rfl
theorem s_67_63 : Go d 67 63 L (.int x :: .ref 6 :: st) (HP lx xs M) Q = (ex_in x 6 = true ∧ Go d 67 64 L (.int (M 6 x.toNatClampNeg) :: st) (HP lx xs M) Q) := go_al rfl rfl
theorem s_67_64 : Go d 67 64 [o0, o1, o2, some (.int x), o4, o5] (st) h Q = Go d 67 65 [o0, o1, o2, some (.int x), o4, o5] (.int x :: st) h Q := go_lo (E := (.iload_n 3, 0, 0, 0)) rfl rfl rfl
theorem s_67_65 {a0 : Int32} {a1 : Int32} : Go (d + 1) 67 65 L [.int a1, .int a0] h Q = Go d 49 0 [some (.int a0), some (.int a1)] [] h (fun v h2 => Go (d + 1) 67 68 L (ap v []) h2 Q) := go_cx (E := (.invokestatic 60, 49, 1, 0)) (k' := 49) (as := [.int a0, .int a1]) rfl rfl rfl rfl rfl rfl rfl rfl
theorem s_67_68 : Go d 67 68 L (.int x :: st) h Q = (if x = 0 then Go d 67 75 L st h Q else Go d 67 71 L st h Q) := go_ifeq rfl
theorem s_67_71 : Go d 67 71 L (st) h Q = Go d 67 72 L (.int (nI 1) :: st) h Q := go_ic rfl ci_i1
theorem s_67_72 : Go d 67 72 L (st) h Q = Go d 67 76 L (st) h Q := go_goto rfl
theorem s_67_75 : Go d 67 75 L (st) h Q = Go d 67 76 L (.int (nI 0) :: st) h Q := go_ic rfl ci_i0
theorem s_67_76_0 : Go d 67 76 L [.int (nI 0)] h Q = Q (some (.int (nI 0))) h := go_rz rfl rfl (by decide)
theorem s_67_76_1 : Go d 67 76 L [.int (nI 1)] h Q = Q (some (.int (nI 1))) h := go_rz rfl rfl (by decide)
theorem s_68_0 : Go d 68 0 [o0, some (.int x), o2, o3] (st) h Q = Go d 68 1 [o0, some (.int x), o2, o3] (.int x :: st) h Q := go_lo (E := (.iload_n 1, 0, 0, 0)) rfl rfl rfl
theorem s_68_1 {a0 : Int32} : Go (d + 1) 68 1 L [.int a0] h Q = Go d 52 0 [some (.int a0)] [] h (fun v h2 => Go (d + 1) 68 4 L (ap v []) h2 Q) := go_cx (E := (.invokestatic 94, 52, 1, 0)) (k' := 52) (as := [.int a0]) rfl rfl rfl rfl rfl rfl rfl rfl
theorem s_68_4 : Go d 68 4 [o0, o1, o2, o3] (.int x :: st) h Q = Go d 68 5 [o0, o1, some (.int x), o3] (st) h Q := go_lo (E := (.istore_n 2, 0, 0, 0)) rfl rfl rfl
theorem s_68_5 : Go d 68 5 [o0, some (.int x), o2, o3] (st) h Q = Go d 68 6 [o0, some (.int x), o2, o3] (.int x :: st) h Q := go_lo (E := (.iload_n 1, 0, 0, 0)) rfl rfl rfl
theorem s_68_6 {a0 : Int32} : Go (d + 1) 68 6 L [.int a0] h Q = Go d 54 0 [some (.int a0)] [] h (fun v h2 => Go (d + 1) 68 9 L (ap v []) h2 Q) := go_cx (E := (.invokestatic 100, 54, 1, 0)) (k' := 54) (as := [.int a0]) rfl rfl rfl rfl rfl rfl rfl rfl
theorem s_68_9 : Go d 68 9 [o0, o1, o2, o3] (.int x :: st) h Q = Go d 68 10 [o0, o1, o2, some (.int x)] (st) h Q := go_lo (E := (.istore_n 3, 0, 0, 0)) rfl rfl rfl
theorem s_68_10 : Go d 68 10 [some (.ref r), o1, o2, o3] (st) h Q = Go d 68 11 [some (.ref r), o1, o2, o3] (.ref r :: st) h Q := go_lo (E := (.aload_n 0, 0, 0, 0)) rfl rfl rfl
theorem s_68_11 : Go d 68 11 [o0, some (.int x), o2, o3] (st) h Q = Go d 68 12 [o0, some (.int x), o2, o3] (.int x :: st) h Q := go_lo (E := (.iload_n 1, 0, 0, 0)) rfl rfl rfl
theorem s_68_12 {a0 : Int32} {zr0 : Nat} : Go (d + 1) 68 12 L [.int a0, .ref zr0] h Q = Go d 53 0 [some (.int a0)] [] h (fun v h2 => Go (d + 1) 68 15 L (ap v [.ref zr0]) h2 Q) := go_cx (E := (.invokestatic 97, 53, 1, 0)) (k' := 53) (as := [.int a0]) rfl rfl rfl rfl rfl rfl rfl rfl
theorem s_68_15 : Go d 68 15 [o0, o1, o2, some (.int x)] (st) h Q = Go d 68 16 [o0, o1, o2, some (.int x)] (.int x :: st) h Q := go_lo (E := (.iload_n 3, 0, 0, 0)) rfl rfl rfl
theorem s_68_16 : Go d 68 16 [some (.ref r), o1, o2, o3] (st) h Q = Go d 68 17 [some (.ref r), o1, o2, o3] (.ref r :: st) h Q := go_lo (E := (.aload_n 0, 0, 0, 0)) rfl rfl rfl
theorem s_68_17 : Go d 68 17 L (.ref 2 :: st) (HP lx xs M) Q = Go d 68 20 L (.ref 3 :: st) (HP lx xs M) Q := go_gf rfl rfl (by decide) rfl
theorem s_68_20 : Go d 68 20 [o0, o1, some (.int x), o3] (st) h Q = Go d 68 21 [o0, o1, some (.int x), o3] (.int x :: st) h Q := go_lo (E := (.iload_n 2, 0, 0, 0)) rfl rfl rfl
theorem s_68_21 : Go d 68 21 L (.int x :: .ref 3 :: st) (HP lx xs M) Q = (ex_in x 6 = true ∧ Go d 68 22 L (.int (M 3 x.toNatClampNeg) :: st) (HP lx xs M) Q) := go_al rfl rfl
theorem s_68_22 : Go d 68 22 [some (.ref r), o1, o2, o3] (st) h Q = Go d 68 23 [some (.ref r), o1, o2, o3] (.ref r :: st) h Q := go_lo (E := (.aload_n 0, 0, 0, 0)) rfl rfl rfl
theorem s_68_23 : Go d 68 23 [o0, o1, some (.int x), o3] (st) h Q = Go d 68 24 [o0, o1, some (.int x), o3] (.int x :: st) h Q := go_lo (E := (.iload_n 2, 0, 0, 0)) rfl rfl rfl
theorem s_68_24 : Go d 68 24 [o0, o1, o2, some (.int x)] (st) h Q = Go d 68 25 [o0, o1, o2, some (.int x)] (.int x :: st) h Q := go_lo (E := (.iload_n 3, 0, 0, 0)) rfl rfl rfl
theorem s_68_25 {a1 : Int32} {a2 : Int32} {z1 : Int32} {z2 : Int32} {z3 : Int32} {zr0 : Nat} : Go (d + 1) 68 25 L [.int a2, .int a1, .ref 2, .int z3, .int z2, .int z1, .ref zr0] (HP lx xs M) Q = Go d 59 0 [some (.ref 2), some (.int a1), some (.int a2)] [] (HP lx xs M) (fun v h2 => Go (d + 1) 68 28 L (ap v [.int z3, .int z2, .int z1, .ref zr0]) h2 Q) := go_cx (E := (.invokevirtual 103, 59, 0, 3)) (k' := 59) (as := [.ref 2, .int a1, .int a2]) rfl rfl rfl rfl rfl rfl rfl rfl
theorem s_68_28 {a0 : Int32} {a1 : Int32} {z1 : Int32} {z2 : Int32} {zr0 : Nat} : Go (d + 1) 68 28 L [.int a1, .int a0, .int z2, .int z1, .ref zr0] h Q = Go d 50 0 [some (.int a0), some (.int a1)] [] h (fun v h2 => Go (d + 1) 68 31 L (ap v [.int z2, .int z1, .ref zr0]) h2 Q) := go_cx (E := (.invokestatic 107, 50, 1, 0)) (k' := 50) (as := [.int a0, .int a1]) rfl rfl rfl rfl rfl rfl rfl rfl
theorem s_68_31 {a1 : Int32} {a2 : Int32} {a3 : Int32} : Go (d + 1) 68 31 L [.int a3, .int a2, .int a1, .ref 2] (HP lx xs M) Q = Go d 60 0 [some (.ref 2), some (.int a1), some (.int a2), some (.int a3)] [] (HP lx xs M) (fun v h2 => Go (d + 1) 68 34 L (ap v []) h2 Q) := go_cx (E := (.invokevirtual 64, 60, 0, 3)) (k' := 60) (as := [.ref 2, .int a1, .int a2, .int a3]) rfl rfl rfl rfl rfl rfl rfl rfl
theorem s_68_34 : Go d 68 34 [some (.ref r), o1, o2, o3] (st) h Q = Go d 68 35 [some (.ref r), o1, o2, o3] (.ref r :: st) h Q := go_lo (E := (.aload_n 0, 0, 0, 0)) rfl rfl rfl
theorem s_68_35 : Go d 68 35 L (.ref 2 :: st) (HP lx xs M) Q = Go d 68 38 L (.int (M 2 1) :: st) (HP lx xs M) Q := go_gf rfl rfl (by decide) rfl
theorem s_68_38 : Go d 68 38 L (st) h Q = Go d 68 40 L (.int (nI 1000000) :: st) h Q := go_ld rfl ci_i1000000
theorem s_68_40 : Go d 68 40 L (.int y :: .int x :: st) h Q = (if x < y then Go d 68 43 L st h Q else Go d 68 53 L st h Q) := go_icge rfl
theorem s_68_43 : Go d 68 43 [some (.ref r), o1, o2, o3] (st) h Q = Go d 68 44 [some (.ref r), o1, o2, o3] (.ref r :: st) h Q := go_lo (E := (.aload_n 0, 0, 0, 0)) rfl rfl rfl
theorem s_68_44 : Go d 68 44 L (.ref r :: st) h Q = Go d 68 45 L (.ref r :: .ref r :: st) h Q := go_op (E := (.dup, 0, 0, 0)) rfl rfl
theorem s_68_45 : Go d 68 45 L (.ref 2 :: st) (HP lx xs M) Q = Go d 68 48 L (.int (M 2 1) :: st) (HP lx xs M) Q := go_gf rfl rfl (by decide) rfl
theorem s_68_48 : Go d 68 48 L (st) h Q = Go d 68 49 L (.int (nI 1) :: st) h Q := go_ic rfl ci_i1
theorem s_68_49 : Go d 68 49 L (.int y :: .int x :: st) h Q = Go d 68 50 L (.int (x + y) :: st) h Q := go_op (E := (.iadd, 0, 0, 0)) rfl rfl
theorem s_68_50 : Go d 68 50 L (.int x :: .ref 2 :: st) (HP lx xs M) Q = Go d 68 53 L (st) (HP lx xs (up M 2 1 x)) Q := go_pf rfl rfl (by decide) (Nat.le_of_ble_eq_true rfl) rfl hf_2_1
theorem s_68_53 : Go d 68 53 L [] h Q = Q none h := go_rv rfl rfl
theorem s_69_0 : Go d 69 0 L (st) h Q = Go d 69 1 L (.int (nI 0) :: st) h Q := go_ic rfl ci_i0
theorem s_69_1 : Go d 69 1 [o0, o1, o2, o3] (.int x :: st) h Q = Go d 69 2 [o0, some (.int x), o2, o3] (st) h Q := go_lo (E := (.istore_n 1, 0, 0, 0)) rfl rfl rfl
theorem s_69_2 : Go d 69 2 L (st) h Q = Go d 69 3 L (.int (nI 0) :: st) h Q := go_ic rfl ci_i0
theorem s_69_3 : Go d 69 3 [o0, o1, o2, o3] (.int x :: st) h Q = Go d 69 4 [o0, o1, some (.int x), o3] (st) h Q := go_lo (E := (.istore_n 2, 0, 0, 0)) rfl rfl rfl
theorem s_69_4 : Go d 69 4 [o0, o1, some (.int x), o3] (st) h Q = Go d 69 5 [o0, o1, some (.int x), o3] (.int x :: st) h Q := go_lo (E := (.iload_n 2, 0, 0, 0)) rfl rfl rfl
theorem s_69_5 : Go d 69 5 [some (.ref r), o1, o2, o3] (st) h Q = Go d 69 6 [some (.ref r), o1, o2, o3] (.ref r :: st) h Q := go_lo (E := (.aload_n 0, 0, 0, 0)) rfl rfl rfl
theorem s_69_6 : Go d 69 6 L (.ref 2 :: st) (HP lx xs M) Q = Go d 69 9 L (.ref 8 :: st) (HP lx xs M) Q := go_gf rfl rfl (by decide) rfl
theorem s_69_9 : Go d 69 9 L (.ref 8 :: st) (HP lx xs M) Q = Go d 69 12 L (.int (M 8 0) :: st) (HP lx xs M) Q := go_gf rfl rfl (by decide) rfl
theorem s_69_12 : Go d 69 12 L (.int y :: .int x :: st) h Q = (if x < y then Go d 69 15 L st h Q else Go d 69 80 L st h Q) := go_icge rfl
theorem s_69_15 : Go d 69 15 [some (.ref r), o1, o2, o3] (st) h Q = Go d 69 16 [some (.ref r), o1, o2, o3] (.ref r :: st) h Q := go_lo (E := (.aload_n 0, 0, 0, 0)) rfl rfl rfl
theorem s_69_16 : Go d 69 16 L (.ref 2 :: st) (HP lx xs M) Q = Go d 69 19 L (.ref 8 :: st) (HP lx xs M) Q := go_gf rfl rfl (by decide) rfl
theorem s_69_19 : Go d 69 19 L (.ref 8 :: st) (HP lx xs M) Q = Go d 69 22 L (.ref 9 :: st) (HP lx xs M) Q := go_gf rfl rfl (by decide) rfl
theorem s_69_22 : Go d 69 22 [o0, o1, some (.int x), o3] (st) h Q = Go d 69 23 [o0, o1, some (.int x), o3] (.int x :: st) h Q := go_lo (E := (.iload_n 2, 0, 0, 0)) rfl rfl rfl
theorem s_69_23 : Go d 69 23 L (.int x :: .ref 9 :: st) (HP lx xs M) Q = (ex_in x 24 = true ∧ Go d 69 24 L (.int (M 9 x.toNatClampNeg) :: st) (HP lx xs M) Q) := go_al rfl rfl
theorem s_69_24 : Go d 69 24 [o0, o1, o2, o3] (.int x :: st) h Q = Go d 69 25 [o0, o1, o2, some (.int x)] (st) h Q := go_lo (E := (.istore_n 3, 0, 0, 0)) rfl rfl rfl
theorem s_69_25 : Go d 69 25 [some (.ref r), o1, o2, o3] (st) h Q = Go d 69 26 [some (.ref r), o1, o2, o3] (.ref r :: st) h Q := go_lo (E := (.aload_n 0, 0, 0, 0)) rfl rfl rfl
theorem s_69_26 : Go d 69 26 L (.ref 2 :: st) (HP lx xs M) Q = Go d 69 29 L (.ref 8 :: st) (HP lx xs M) Q := go_gf rfl rfl (by decide) rfl
theorem s_69_29 : Go d 69 29 L (.ref 8 :: st) (HP lx xs M) Q = Go d 69 32 L (.ref 10 :: st) (HP lx xs M) Q := go_gf rfl rfl (by decide) rfl
theorem s_69_32 : Go d 69 32 [o0, o1, some (.int x), o3] (st) h Q = Go d 69 33 [o0, o1, some (.int x), o3] (.int x :: st) h Q := go_lo (E := (.iload_n 2, 0, 0, 0)) rfl rfl rfl
theorem s_69_33 : Go d 69 33 L (.int x :: .ref 10 :: st) (HP lx xs M) Q = (ex_in x 24 = true ∧ Go d 69 34 L (.int (M 10 x.toNatClampNeg) :: st) (HP lx xs M) Q) := go_bl rfl rfl (by decide) (by decide)
theorem s_69_34 : Go d 69 34 L (.int x :: st) h Q = (if x = 0 then Go d 69 39 L st h Q else Go d 69 37 L st h Q) := go_ifeq rfl
theorem s_69_37 : Go d 69 37 L (st) h Q = Go d 69 38 L (.int (nI 0) :: st) h Q := go_ic rfl ci_i0
theorem s_69_38 : Go d 69 38 [o0, o1, o2, o3] (.int x :: st) h Q = Go d 69 39 [o0, some (.int x), o2, o3] (st) h Q := go_lo (E := (.istore_n 1, 0, 0, 0)) rfl rfl rfl
theorem s_69_39 : Go d 69 39 [o0, some (.int x), o2, o3] (st) h Q = Go d 69 40 [o0, some (.int x), o2, o3] (.int x :: st) h Q := go_lo (E := (.iload_n 1, 0, 0, 0)) rfl rfl rfl
theorem s_69_40 : Go d 69 40 [o0, o1, o2, some (.int x)] (st) h Q = Go d 69 41 [o0, o1, o2, some (.int x)] (.int x :: st) h Q := go_lo (E := (.iload_n 3, 0, 0, 0)) rfl rfl rfl
theorem s_69_41 {a0 : Int32} {z0 : Int32} : Go (d + 1) 69 41 L [.int a0, .int z0] h Q = Go d 55 0 [some (.int a0)] [] h (fun v h2 => Go (d + 1) 69 44 L (ap v [.int z0]) h2 Q) := go_cx (E := (.invokestatic 121, 55, 1, 0)) (k' := 55) (as := [.int a0]) rfl rfl rfl rfl rfl rfl rfl rfl
theorem s_69_44 : Go d 69 44 L (.int y :: .int x :: st) h Q = Go d 69 45 L (.int (x &&& y) :: st) h Q := go_op (E := (.iand, 0, 0, 0)) rfl rfl
theorem s_69_45 : Go d 69 45 L (.int x :: st) h Q = (if x = 0 then Go d 69 48 L st h Q else Go d 69 60 L st h Q) := go_ifne rfl
theorem s_69_48 : Go d 69 48 [some (.ref r), o1, o2, o3] (st) h Q = Go d 69 49 [some (.ref r), o1, o2, o3] (.ref r :: st) h Q := go_lo (E := (.aload_n 0, 0, 0, 0)) rfl rfl rfl
theorem s_69_49 : Go d 69 49 [some (.ref r), o1, o2, o3] (st) h Q = Go d 69 50 [some (.ref r), o1, o2, o3] (.ref r :: st) h Q := go_lo (E := (.aload_n 0, 0, 0, 0)) rfl rfl rfl
theorem s_69_50 : Go d 69 50 L (.ref 2 :: st) (HP lx xs M) Q = Go d 69 53 L (.ref 5 :: st) (HP lx xs M) Q := go_gf rfl rfl (by decide) rfl
theorem s_69_53 : Go d 69 53 [o0, o1, o2, some (.int x)] (st) h Q = Go d 69 54 [o0, o1, o2, some (.int x)] (.int x :: st) h Q := go_lo (E := (.iload_n 3, 0, 0, 0)) rfl rfl rfl
theorem s_69_54 {a2 : Int32} {ar1 : Nat} : Go (d + 1) 69 54 L [.int a2, .ref ar1, .ref 2] (HP lx xs M) Q = Go d 67 0 [some (.ref 2), some (.ref ar1), some (.int a2), none, none, none] [] (HP lx xs M) (fun v h2 => Go (d + 1) 69 57 L (ap v []) h2 Q) := go_cx (E := (.invokevirtual 124, 67, 0, 3)) (k' := 67) (as := [.ref 2, .ref ar1, .int a2]) rfl rfl rfl rfl rfl rfl rfl rfl
theorem s_69_57 : Go d 69 57 L (.int x :: st) h Q = (if x = 0 then Go d 69 60 L st h Q else Go d 69 62 L st h Q) := go_ifne rfl
theorem s_69_60 : Go d 69 60 [o0, o1, some (.int x), o3] (st) h Q = Go d 69 61 [o0, o1, some (.int x), o3] (.int x :: st) h Q := go_lo (E := (.iload_n 2, 0, 0, 0)) rfl rfl rfl
theorem s_69_61 : Go d 69 61 L [.int x] h Q = Q (some (.int x)) h := go_ri rfl rfl
theorem s_69_62 : Go d 69 62 [o0, some (.int x), o2, o3] (st) h Q = Go d 69 63 [o0, some (.int x), o2, o3] (.int x :: st) h Q := go_lo (E := (.iload_n 1, 0, 0, 0)) rfl rfl rfl
theorem s_69_63 : Go d 69 63 [o0, o1, o2, some (.int x)] (st) h Q = Go d 69 64 [o0, o1, o2, some (.int x)] (.int x :: st) h Q := go_lo (E := (.iload_n 3, 0, 0, 0)) rfl rfl rfl
theorem s_69_64 {a0 : Int32} {z0 : Int32} : Go (d + 1) 69 64 L [.int a0, .int z0] h Q = Go d 55 0 [some (.int a0)] [] h (fun v h2 => Go (d + 1) 69 67 L (ap v [.int z0]) h2 Q) := go_cx (E := (.invokestatic 121, 55, 1, 0)) (k' := 55) (as := [.int a0]) rfl rfl rfl rfl rfl rfl rfl rfl
theorem s_69_67 : Go d 69 67 L (.int y :: .int x :: st) h Q = Go d 69 68 L (.int (x ||| y) :: st) h Q := go_op (E := (.ior, 0, 0, 0)) rfl rfl
theorem s_69_68 : Go d 69 68 [o0, o1, o2, o3] (.int x :: st) h Q = Go d 69 69 [o0, some (.int x), o2, o3] (st) h Q := go_lo (E := (.istore_n 1, 0, 0, 0)) rfl rfl rfl
theorem s_69_69 : Go d 69 69 [some (.ref r), o1, o2, o3] (st) h Q = Go d 69 70 [some (.ref r), o1, o2, o3] (.ref r :: st) h Q := go_lo (E := (.aload_n 0, 0, 0, 0)) rfl rfl rfl
theorem s_69_70 : Go d 69 70 [o0, o1, o2, some (.int x)] (st) h Q = Go d 69 71 [o0, o1, o2, some (.int x)] (.int x :: st) h Q := go_lo (E := (.iload_n 3, 0, 0, 0)) rfl rfl rfl
theorem s_69_71 {a1 : Int32} : Go (d + 1) 69 71 L [.int a1, .ref 2] (HP lx xs M) Q = Go d 68 0 [some (.ref 2), some (.int a1), none, none] [] (HP lx xs M) (fun v h2 => Go (d + 1) 69 74 L (ap v []) h2 Q) := go_cx (E := (.invokevirtual 128, 68, 0, 3)) (k' := 68) (as := [.ref 2, .int a1]) rfl rfl rfl rfl rfl rfl rfl rfl
theorem s_69_74 : Go d 69 74 [o0, o1, some (.int x), o3] (st) h Q = Go d 69 77 [o0, o1, some (.int (x + nI 1)), o3] (st) h Q := (ci_i1 ▸ go_lo (E := (.iinc 2 1, 0, 0, 0)) rfl rfl rfl : _ = Go d 69 77 [o0, o1, some (.int (x + nI 1)), o3] (st) h Q)
theorem s_69_77 : Go d 69 77 L (st) h Q = Go d 69 4 L (st) h Q := go_goto rfl
theorem s_69_80 : Go d 69 80 [some (.ref r), o1, o2, o3] (st) h Q = Go d 69 81 [some (.ref r), o1, o2, o3] (.ref r :: st) h Q := go_lo (E := (.aload_n 0, 0, 0, 0)) rfl rfl rfl
theorem s_69_81 : Go d 69 81 L (.ref 2 :: st) (HP lx xs M) Q = Go d 69 84 L (.ref 8 :: st) (HP lx xs M) Q := go_gf rfl rfl (by decide) rfl
theorem s_69_84 : Go d 69 84 L (.ref 8 :: st) (HP lx xs M) Q = Go d 69 87 L (.int (M 8 0) :: st) (HP lx xs M) Q := go_gf rfl rfl (by decide) rfl
theorem s_69_87 : Go d 69 87 L [.int x] h Q = Q (some (.int x)) h := go_ri rfl rfl
theorem s_70_0 : Go d 70 0 [some (.ref r), o1, o2, o3, o4, o5] (st) h Q = Go d 70 1 [some (.ref r), o1, o2, o3, o4, o5] (.ref r :: st) h Q := go_lo (E := (.aload_n 0, 0, 0, 0)) rfl rfl rfl
theorem s_70_1 : Go d 70 1 L (.ref 2 :: st) (HP lx xs M) Q = Go d 70 4 L (.ref 5 :: st) (HP lx xs M) Q := go_gf rfl rfl (by decide) rfl
theorem s_70_4 : Go d 70 4 L (st) h Q = Go d 70 5 L (.int (nI 0) :: st) h Q := go_ic rfl ci_i0
theorem s_70_5 : Go d 70 5 [o0, o1, some (.ref r), o3, o4, o5] (st) h Q = Go d 70 6 [o0, o1, some (.ref r), o3, o4, o5] (.ref r :: st) h Q := go_lo (E := (.aload_n 2, 0, 0, 0)) rfl rfl rfl
theorem s_70_6 : Go d 70 6 L (st) h Q = Go d 70 7 L (.int (nI 0) :: st) h Q := go_ic rfl ci_i0
theorem s_70_7 : Go d 70 7 L (st) h Q = Go d 70 9 L (.int (nI 6) :: st) h Q := go_bi rfl ci_b6
theorem s_70_12 : Go d 70 12 [o0, some (.int x), o2, o3, o4, o5] (st) h Q = Go d 70 13 [o0, some (.int x), o2, o3, o4, o5] (.int x :: st) h Q := go_lo (E := (.iload_n 1, 0, 0, 0)) rfl rfl rfl
theorem s_70_13 : Go d 70 13 [o0, o1, o2, o3, o4, o5] (.int x :: st) h Q = Go d 70 14 [o0, o1, o2, some (.int x), o4, o5] (st) h Q := go_lo (E := (.istore_n 3, 0, 0, 0)) rfl rfl rfl
theorem s_70_14 : Go d 70 14 L (st) h Q = Go d 70 15 L (.int (nI 0) :: st) h Q := go_ic rfl ci_i0
theorem s_70_15 : Go d 70 15 [o0, o1, o2, o3, o4, o5] (.int x :: st) h Q = Go d 70 17 [o0, o1, o2, o3, some (.int x), o5] (st) h Q := go_lo (E := (.istore 4, 0, 0, 0)) rfl rfl rfl
theorem s_70_17 : Go d 70 17 [o0, o1, o2, o3, some (.int x), o5] (st) h Q = Go d 70 19 [o0, o1, o2, o3, some (.int x), o5] (.int x :: st) h Q := go_lo (E := (.iload 4, 0, 0, 0)) rfl rfl rfl
theorem s_70_19 : Go d 70 19 [some (.ref r), o1, o2, o3, o4, o5] (st) h Q = Go d 70 20 [some (.ref r), o1, o2, o3, o4, o5] (.ref r :: st) h Q := go_lo (E := (.aload_n 0, 0, 0, 0)) rfl rfl rfl
theorem s_70_20 : Go d 70 20 L (.ref 2 :: st) (HP lx xs M) Q = Go d 70 23 L (.ref 8 :: st) (HP lx xs M) Q := go_gf rfl rfl (by decide) rfl
theorem s_70_23 : Go d 70 23 L (.ref 8 :: st) (HP lx xs M) Q = Go d 70 26 L (.int (M 8 0) :: st) (HP lx xs M) Q := go_gf rfl rfl (by decide) rfl
theorem s_70_26 : Go d 70 26 L (.int y :: .int x :: st) h Q = (if x < y then Go d 70 29 L st h Q else Go d 70 110 L st h Q) := go_icge rfl
theorem s_70_29 : Go d 70 29 [some (.ref r), o1, o2, o3, o4, o5] (st) h Q = Go d 70 30 [some (.ref r), o1, o2, o3, o4, o5] (.ref r :: st) h Q := go_lo (E := (.aload_n 0, 0, 0, 0)) rfl rfl rfl
theorem s_70_30 : Go d 70 30 L (.ref 2 :: st) (HP lx xs M) Q = Go d 70 33 L (.ref 8 :: st) (HP lx xs M) Q := go_gf rfl rfl (by decide) rfl
theorem s_70_33 : Go d 70 33 L (.ref 8 :: st) (HP lx xs M) Q = Go d 70 36 L (.ref 9 :: st) (HP lx xs M) Q := go_gf rfl rfl (by decide) rfl
theorem s_70_36 : Go d 70 36 [o0, o1, o2, o3, some (.int x), o5] (st) h Q = Go d 70 38 [o0, o1, o2, o3, some (.int x), o5] (.int x :: st) h Q := go_lo (E := (.iload 4, 0, 0, 0)) rfl rfl rfl
theorem s_70_38 : Go d 70 38 L (.int x :: .ref 9 :: st) (HP lx xs M) Q = (ex_in x 24 = true ∧ Go d 70 39 L (.int (M 9 x.toNatClampNeg) :: st) (HP lx xs M) Q) := go_al rfl rfl
theorem s_70_39 : Go d 70 39 [o0, o1, o2, o3, o4, o5] (.int x :: st) h Q = Go d 70 41 [o0, o1, o2, o3, o4, some (.int x)] (st) h Q := go_lo (E := (.istore 5, 0, 0, 0)) rfl rfl rfl
theorem s_70_41 : Go d 70 41 [some (.ref r), o1, o2, o3, o4, o5] (st) h Q = Go d 70 42 [some (.ref r), o1, o2, o3, o4, o5] (.ref r :: st) h Q := go_lo (E := (.aload_n 0, 0, 0, 0)) rfl rfl rfl
theorem s_70_42 : Go d 70 42 L (.ref 2 :: st) (HP lx xs M) Q = Go d 70 45 L (.ref 8 :: st) (HP lx xs M) Q := go_gf rfl rfl (by decide) rfl
theorem s_70_45 : Go d 70 45 L (.ref 8 :: st) (HP lx xs M) Q = Go d 70 48 L (.ref 10 :: st) (HP lx xs M) Q := go_gf rfl rfl (by decide) rfl
theorem s_70_48 : Go d 70 48 [o0, o1, o2, o3, some (.int x), o5] (st) h Q = Go d 70 50 [o0, o1, o2, o3, some (.int x), o5] (.int x :: st) h Q := go_lo (E := (.iload 4, 0, 0, 0)) rfl rfl rfl
theorem s_70_50 : Go d 70 50 L (.int x :: .ref 10 :: st) (HP lx xs M) Q = (ex_in x 24 = true ∧ Go d 70 51 L (.int (M 10 x.toNatClampNeg) :: st) (HP lx xs M) Q) := go_bl rfl rfl (by decide) (by decide)
theorem s_70_51 : Go d 70 51 L (.int x :: st) h Q = (if x = 0 then Go d 70 56 L st h Q else Go d 70 54 L st h Q) := go_ifeq rfl
theorem s_70_54 : Go d 70 54 [o0, some (.int x), o2, o3, o4, o5] (st) h Q = Go d 70 55 [o0, some (.int x), o2, o3, o4, o5] (.int x :: st) h Q := go_lo (E := (.iload_n 1, 0, 0, 0)) rfl rfl rfl
theorem s_70_55 : Go d 70 55 [o0, o1, o2, o3, o4, o5] (.int x :: st) h Q = Go d 70 56 [o0, o1, o2, some (.int x), o4, o5] (st) h Q := go_lo (E := (.istore_n 3, 0, 0, 0)) rfl rfl rfl
theorem s_70_56 : Go d 70 56 [o0, o1, o2, some (.int x), o4, o5] (st) h Q = Go d 70 57 [o0, o1, o2, some (.int x), o4, o5] (.int x :: st) h Q := go_lo (E := (.iload_n 3, 0, 0, 0)) rfl rfl rfl
theorem s_70_57 : Go d 70 57 [o0, o1, o2, o3, o4, some (.int x)] (st) h Q = Go d 70 59 [o0, o1, o2, o3, o4, some (.int x)] (.int x :: st) h Q := go_lo (E := (.iload 5, 0, 0, 0)) rfl rfl rfl
theorem s_70_59 {a0 : Int32} {z0 : Int32} : Go (d + 1) 70 59 L [.int a0, .int z0] h Q = Go d 55 0 [some (.int a0)] [] h (fun v h2 => Go (d + 1) 70 62 L (ap v [.int z0]) h2 Q) := go_cx (E := (.invokestatic 121, 55, 1, 0)) (k' := 55) (as := [.int a0]) rfl rfl rfl rfl rfl rfl rfl rfl
theorem s_70_62 : Go d 70 62 L (.int y :: .int x :: st) h Q = Go d 70 63 L (.int (x &&& y) :: st) h Q := go_op (E := (.iand, 0, 0, 0)) rfl rfl
theorem s_70_63 : Go d 70 63 L (.int x :: st) h Q = (if x = 0 then Go d 70 66 L st h Q else Go d 70 104 L st h Q) := go_ifne rfl
theorem s_70_66 : Go d 70 66 [some (.ref r), o1, o2, o3, o4, o5] (st) h Q = Go d 70 67 [some (.ref r), o1, o2, o3, o4, o5] (.ref r :: st) h Q := go_lo (E := (.aload_n 0, 0, 0, 0)) rfl rfl rfl
theorem s_70_67 : Go d 70 67 [o0, o1, some (.ref r), o3, o4, o5] (st) h Q = Go d 70 68 [o0, o1, some (.ref r), o3, o4, o5] (.ref r :: st) h Q := go_lo (E := (.aload_n 2, 0, 0, 0)) rfl rfl rfl
theorem s_70_68 : Go d 70 68 [o0, o1, o2, o3, o4, some (.int x)] (st) h Q = Go d 70 70 [o0, o1, o2, o3, o4, some (.int x)] (.int x :: st) h Q := go_lo (E := (.iload 5, 0, 0, 0)) rfl rfl rfl
theorem s_70_70 {a2 : Int32} {ar1 : Nat} : Go (d + 1) 70 70 L [.int a2, .ref ar1, .ref 2] (HP lx xs M) Q = Go d 67 0 [some (.ref 2), some (.ref ar1), some (.int a2), none, none, none] [] (HP lx xs M) (fun v h2 => Go (d + 1) 70 73 L (ap v []) h2 Q) := go_cx (E := (.invokevirtual 124, 67, 0, 3)) (k' := 67) (as := [.ref 2, .ref ar1, .int a2]) rfl rfl rfl rfl rfl rfl rfl rfl
theorem s_70_73 : Go d 70 73 L (.int x :: st) h Q = (if x = 0 then Go d 70 76 L st h Q else Go d 70 79 L st h Q) := go_ifne rfl
theorem s_70_76 : Go d 70 76 L (st) h Q = Go d 70 104 L (st) h Q := go_goto rfl
theorem s_70_79 : Go d 70 79 [o0, o1, o2, some (.int x), o4, o5] (st) h Q = Go d 70 80 [o0, o1, o2, some (.int x), o4, o5] (.int x :: st) h Q := go_lo (E := (.iload_n 3, 0, 0, 0)) rfl rfl rfl
theorem s_70_80 : Go d 70 80 [o0, o1, o2, o3, o4, some (.int x)] (st) h Q = Go d 70 82 [o0, o1, o2, o3, o4, some (.int x)] (.int x :: st) h Q := go_lo (E := (.iload 5, 0, 0, 0)) rfl rfl rfl
theorem s_70_82 {a0 : Int32} {z0 : Int32} : Go (d + 1) 70 82 L [.int a0, .int z0] h Q = Go d 55 0 [some (.int a0)] [] h (fun v h2 => Go (d + 1) 70 85 L (ap v [.int z0]) h2 Q) := go_cx (E := (.invokestatic 121, 55, 1, 0)) (k' := 55) (as := [.int a0]) rfl rfl rfl rfl rfl rfl rfl rfl
theorem s_70_85 : Go d 70 85 L (.int y :: .int x :: st) h Q = Go d 70 86 L (.int (x ||| y) :: st) h Q := go_op (E := (.ior, 0, 0, 0)) rfl rfl
theorem s_70_86 : Go d 70 86 [o0, o1, o2, o3, o4, o5] (.int x :: st) h Q = Go d 70 87 [o0, o1, o2, some (.int x), o4, o5] (st) h Q := go_lo (E := (.istore_n 3, 0, 0, 0)) rfl rfl rfl
theorem s_70_87 : Go d 70 87 [o0, o1, some (.ref r), o3, o4, o5] (st) h Q = Go d 70 88 [o0, o1, some (.ref r), o3, o4, o5] (.ref r :: st) h Q := go_lo (E := (.aload_n 2, 0, 0, 0)) rfl rfl rfl
theorem s_70_88 : Go d 70 88 [o0, o1, o2, o3, o4, some (.int x)] (st) h Q = Go d 70 90 [o0, o1, o2, o3, o4, some (.int x)] (.int x :: st) h Q := go_lo (E := (.iload 5, 0, 0, 0)) rfl rfl rfl
theorem s_70_90 {a0 : Int32} {zr0 : Nat} : Go (d + 1) 70 90 L [.int a0, .ref zr0] h Q = Go d 53 0 [some (.int a0)] [] h (fun v h2 => Go (d + 1) 70 93 L (ap v [.ref zr0]) h2 Q) := go_cx (E := (.invokestatic 97, 53, 1, 0)) (k' := 53) (as := [.int a0]) rfl rfl rfl rfl rfl rfl rfl rfl
theorem s_70_93 : Go d 70 93 L (.int x :: .ref r2 :: st) h Q = Go d 70 94 L (.int x :: .ref r2 :: .int x :: .ref r2 :: st) h Q := go_op (E := (.dup2, 0, 0, 0)) rfl rfl
theorem s_70_94_11 : Go d 70 94 L (.int x :: .ref 11 :: st) (HP lx xs M) Q = (ex_in x 6 = true ∧ Go d 70 95 L (.int (M 11 x.toNatClampNeg) :: st) (HP lx xs M) Q) := go_al rfl rfl
theorem s_70_94_12 : Go d 70 94 L (.int x :: .ref 12 :: st) (HP lx xs M) Q = (ex_in x 6 = true ∧ Go d 70 95 L (.int (M 12 x.toNatClampNeg) :: st) (HP lx xs M) Q) := go_al rfl rfl
theorem s_70_95 : Go d 70 95 L (st) h Q = Go d 70 96 L (.int (nI 1) :: st) h Q := go_ic rfl ci_i1
theorem s_70_96 : Go d 70 96 [o0, o1, o2, o3, o4, some (.int x)] (st) h Q = Go d 70 98 [o0, o1, o2, o3, o4, some (.int x)] (.int x :: st) h Q := go_lo (E := (.iload 5, 0, 0, 0)) rfl rfl rfl
theorem s_70_98 {a0 : Int32} {z1 : Int32} {z2 : Int32} {z3 : Int32} {zr0 : Nat} : Go (d + 1) 70 98 L [.int a0, .int z3, .int z2, .int z1, .ref zr0] h Q = Go d 54 0 [some (.int a0)] [] h (fun v h2 => Go (d + 1) 70 101 L (ap v [.int z3, .int z2, .int z1, .ref zr0]) h2 Q) := go_cx (E := (.invokestatic 100, 54, 1, 0)) (k' := 54) (as := [.int a0]) rfl rfl rfl rfl rfl rfl rfl rfl
theorem s_70_101 : Go d 70 101 L (.int y :: .int x :: st) h Q = Go d 70 102 L (.int (x <<< (y &&& 31)) :: st) h Q := go_op (E := (.ishl, 0, 0, 0)) rfl rfl
theorem s_70_102 : Go d 70 102 L (.int y :: .int x :: st) h Q = Go d 70 103 L (.int (x ||| y) :: st) h Q := go_op (E := (.ior, 0, 0, 0)) rfl rfl
theorem s_70_103_11 : Go d 70 103 L (.int y :: .int x :: .ref 11 :: st) (HP lx xs M) Q = (ex_in x 6 = true ∧ Go d 70 104 L (st) (HP lx xs (up M 11 x.toNatClampNeg y)) Q) := go_as rfl rfl (by decide) hs_11
theorem s_70_103_12 : Go d 70 103 L (.int y :: .int x :: .ref 12 :: st) (HP lx xs M) Q = (ex_in x 6 = true ∧ Go d 70 104 L (st) (HP lx xs (up M 12 x.toNatClampNeg y)) Q) := go_as rfl rfl (by decide) hs_12
theorem s_70_104 : Go d 70 104 [o0, o1, o2, o3, some (.int x), o5] (st) h Q = Go d 70 107 [o0, o1, o2, o3, some (.int (x + nI 1)), o5] (st) h Q := (ci_i1 ▸ go_lo (E := (.iinc 4 1, 0, 0, 0)) rfl rfl rfl : _ = Go d 70 107 [o0, o1, o2, o3, some (.int (x + nI 1)), o5] (st) h Q)
theorem s_70_107 : Go d 70 107 L (st) h Q = Go d 70 17 L (st) h Q := go_goto rfl
theorem s_70_110 : Go d 70 110 L [] h Q = Q none h := go_rv rfl rfl
theorem s_71_0 : Go d 71 0 L (st) h Q = Go d 71 1 L (.int (nI 0) :: st) h Q := go_ic rfl ci_i0
theorem s_71_1 : Go d 71 1 [o0, o1, o2] (.int x :: st) h Q = Go d 71 2 [o0, some (.int x), o2] (st) h Q := go_lo (E := (.istore_n 1, 0, 0, 0)) rfl rfl rfl
theorem s_71_2 : Go d 71 2 [some (.ref r), o1, o2] (st) h Q = Go d 71 3 [some (.ref r), o1, o2] (.ref r :: st) h Q := go_lo (E := (.aload_n 0, 0, 0, 0)) rfl rfl rfl
theorem s_71_3 : Go d 71 3 L (st) h Q = Go d 71 4 L (.int (nI 0) :: st) h Q := go_ic rfl ci_i0
theorem s_71_4 : Go d 71 4 [some (.ref r), o1, o2] (st) h Q = Go d 71 5 [some (.ref r), o1, o2] (.ref r :: st) h Q := go_lo (E := (.aload_n 0, 0, 0, 0)) rfl rfl rfl
theorem s_71_5 : Go d 71 5 L (.ref 2 :: st) (HP lx xs M) Q = Go d 71 8 L (.ref 11 :: st) (HP lx xs M) Q := go_gf rfl rfl (by decide) rfl
theorem s_71_8 {a1 : Int32} {ar2 : Nat} : Go (d + 1) 71 8 L [.ref ar2, .int a1, .ref 2] (HP lx xs M) Q = Go d 70 0 [some (.ref 2), some (.int a1), some (.ref ar2), none, none, none] [] (HP lx xs M) (fun v h2 => Go (d + 1) 71 11 L (ap v []) h2 Q) := go_cx (E := (.invokevirtual 132, 70, 0, 3)) (k' := 70) (as := [.ref 2, .int a1, .ref ar2]) rfl rfl rfl rfl rfl rfl rfl rfl
theorem s_71_11 : Go d 71 11 L (st) h Q = Go d 71 12 L (.int (nI 0) :: st) h Q := go_ic rfl ci_i0
theorem s_71_12 : Go d 71 12 [o0, o1, o2] (.int x :: st) h Q = Go d 71 13 [o0, o1, some (.int x)] (st) h Q := go_lo (E := (.istore_n 2, 0, 0, 0)) rfl rfl rfl
theorem s_71_13 : Go d 71 13 [o0, o1, some (.int x)] (st) h Q = Go d 71 14 [o0, o1, some (.int x)] (.int x :: st) h Q := go_lo (E := (.iload_n 2, 0, 0, 0)) rfl rfl rfl
theorem s_71_14 : Go d 71 14 [some (.ref r), o1, o2] (st) h Q = Go d 71 15 [some (.ref r), o1, o2] (.ref r :: st) h Q := go_lo (E := (.aload_n 0, 0, 0, 0)) rfl rfl rfl
theorem s_71_15 : Go d 71 15 L (.ref 2 :: st) (HP lx xs M) Q = Go d 71 18 L (.int (M 2 0) :: st) (HP lx xs M) Q := go_gf rfl rfl (by decide) rfl
theorem s_71_18 : Go d 71 18 L (.int y :: .int x :: st) h Q = (if x < y then Go d 71 21 L st h Q else Go d 71 52 L st h Q) := go_icge rfl
theorem s_71_21 : Go d 71 21 [some (.ref r), o1, o2] (st) h Q = Go d 71 22 [some (.ref r), o1, o2] (.ref r :: st) h Q := go_lo (E := (.aload_n 0, 0, 0, 0)) rfl rfl rfl
theorem s_71_22 : Go d 71 22 L (st) h Q = Go d 71 23 L (.int (nI 1) :: st) h Q := go_ic rfl ci_i1
theorem s_71_23 : Go d 71 23 [o0, o1, some (.int x)] (st) h Q = Go d 71 24 [o0, o1, some (.int x)] (.int x :: st) h Q := go_lo (E := (.iload_n 2, 0, 0, 0)) rfl rfl rfl
theorem s_71_24 : Go d 71 24 L (.int y :: .int x :: st) h Q = Go d 71 25 L (.int (x <<< (y &&& 31)) :: st) h Q := go_op (E := (.ishl, 0, 0, 0)) rfl rfl
theorem s_71_25 : Go d 71 25 [some (.ref r), o1, o2] (st) h Q = Go d 71 26 [some (.ref r), o1, o2] (.ref r :: st) h Q := go_lo (E := (.aload_n 0, 0, 0, 0)) rfl rfl rfl
theorem s_71_26 : Go d 71 26 L (.ref 2 :: st) (HP lx xs M) Q = Go d 71 29 L (.ref 12 :: st) (HP lx xs M) Q := go_gf rfl rfl (by decide) rfl
theorem s_71_29 {a1 : Int32} {ar2 : Nat} : Go (d + 1) 71 29 L [.ref ar2, .int a1, .ref 2] (HP lx xs M) Q = Go d 70 0 [some (.ref 2), some (.int a1), some (.ref ar2), none, none, none] [] (HP lx xs M) (fun v h2 => Go (d + 1) 71 32 L (ap v []) h2 Q) := go_cx (E := (.invokevirtual 132, 70, 0, 3)) (k' := 70) (as := [.ref 2, .int a1, .ref ar2]) rfl rfl rfl rfl rfl rfl rfl rfl
theorem s_71_32 : Go d 71 32 [some (.ref r), o1, o2] (st) h Q = Go d 71 33 [some (.ref r), o1, o2] (.ref r :: st) h Q := go_lo (E := (.aload_n 0, 0, 0, 0)) rfl rfl rfl
theorem s_71_33 : Go d 71 33 [o0, o1, some (.int x)] (st) h Q = Go d 71 34 [o0, o1, some (.int x)] (.int x :: st) h Q := go_lo (E := (.iload_n 2, 0, 0, 0)) rfl rfl rfl
theorem s_71_34 {a1 : Int32} : Go (d + 1) 71 34 L [.int a1, .ref 2] (HP lx xs M) Q = Go d 72 0 [some (.ref 2), some (.int a1), none] [] (HP lx xs M) (fun v h2 => Go (d + 1) 71 37 L (ap v []) h2 Q) := go_cx (E := (.invokevirtual 136, 72, 0, 3)) (k' := 72) (as := [.ref 2, .int a1]) rfl rfl rfl rfl rfl rfl rfl rfl
theorem s_71_37 : Go d 71 37 L (.int x :: st) h Q = (if x = 0 then Go d 71 46 L st h Q else Go d 71 40 L st h Q) := go_ifeq rfl
theorem s_71_40 : Go d 71 40 [o0, some (.int x), o2] (st) h Q = Go d 71 41 [o0, some (.int x), o2] (.int x :: st) h Q := go_lo (E := (.iload_n 1, 0, 0, 0)) rfl rfl rfl
theorem s_71_41 : Go d 71 41 L (st) h Q = Go d 71 42 L (.int (nI 1) :: st) h Q := go_ic rfl ci_i1
theorem s_71_42 : Go d 71 42 [o0, o1, some (.int x)] (st) h Q = Go d 71 43 [o0, o1, some (.int x)] (.int x :: st) h Q := go_lo (E := (.iload_n 2, 0, 0, 0)) rfl rfl rfl
theorem s_71_43 : Go d 71 43 L (.int y :: .int x :: st) h Q = Go d 71 44 L (.int (x <<< (y &&& 31)) :: st) h Q := go_op (E := (.ishl, 0, 0, 0)) rfl rfl
theorem s_71_44 : Go d 71 44 L (.int y :: .int x :: st) h Q = Go d 71 45 L (.int (x ||| y) :: st) h Q := go_op (E := (.ior, 0, 0, 0)) rfl rfl
theorem s_71_45 : Go d 71 45 [o0, o1, o2] (.int x :: st) h Q = Go d 71 46 [o0, some (.int x), o2] (st) h Q := go_lo (E := (.istore_n 1, 0, 0, 0)) rfl rfl rfl
theorem s_71_46 : Go d 71 46 [o0, o1, some (.int x)] (st) h Q = Go d 71 49 [o0, o1, some (.int (x + nI 1))] (st) h Q := (ci_i1 ▸ go_lo (E := (.iinc 2 1, 0, 0, 0)) rfl rfl rfl : _ = Go d 71 49 [o0, o1, some (.int (x + nI 1))] (st) h Q)
theorem s_71_49 : Go d 71 49 L (st) h Q = Go d 71 13 L (st) h Q := go_goto rfl
theorem s_71_52 : Go d 71 52 [o0, some (.int x), o2] (st) h Q = Go d 71 53 [o0, some (.int x), o2] (.int x :: st) h Q := go_lo (E := (.iload_n 1, 0, 0, 0)) rfl rfl rfl
theorem s_71_53 : Go d 71 53 L [.int x] h Q = Q (some (.int x)) h := go_ri rfl rfl
theorem s_72_0 : Go d 72 0 L (st) h Q = Go d 72 1 L (.int (nI 0) :: st) h Q := go_ic rfl ci_i0
theorem s_72_1 : Go d 72 1 [o0, o1, o2] (.int x :: st) h Q = Go d 72 2 [o0, o1, some (.int x)] (st) h Q := go_lo (E := (.istore_n 2, 0, 0, 0)) rfl rfl rfl
theorem s_72_2 : Go d 72 2 [o0, o1, some (.int x)] (st) h Q = Go d 72 3 [o0, o1, some (.int x)] (.int x :: st) h Q := go_lo (E := (.iload_n 2, 0, 0, 0)) rfl rfl rfl
theorem s_72_3 : Go d 72 3 [some (.ref r), o1, o2] (st) h Q = Go d 72 4 [some (.ref r), o1, o2] (.ref r :: st) h Q := go_lo (E := (.aload_n 0, 0, 0, 0)) rfl rfl rfl
theorem s_72_4 : Go d 72 4 L (.ref 2 :: st) (HP lx xs M) Q = Go d 72 7 L (.int (M 2 0) :: st) (HP lx xs M) Q := go_gf rfl rfl (by decide) rfl
theorem s_72_7 : Go d 72 7 L (.int y :: .int x :: st) h Q = (if x < y then Go d 72 10 L st h Q else Go d 72 41 L st h Q) := go_icge rfl
theorem s_72_10 : Go d 72 10 [o0, o1, some (.int x)] (st) h Q = Go d 72 11 [o0, o1, some (.int x)] (.int x :: st) h Q := go_lo (E := (.iload_n 2, 0, 0, 0)) rfl rfl rfl
theorem s_72_11 : Go d 72 11 [o0, some (.int x), o2] (st) h Q = Go d 72 12 [o0, some (.int x), o2] (.int x :: st) h Q := go_lo (E := (.iload_n 1, 0, 0, 0)) rfl rfl rfl
theorem s_72_12 : Go d 72 12 L (.int y :: .int x :: st) h Q = (if x = y then Go d 72 35 L st h Q else Go d 72 15 L st h Q) := go_iceq rfl
theorem s_72_15 : Go d 72 15 [some (.ref r), o1, o2] (st) h Q = Go d 72 16 [some (.ref r), o1, o2] (.ref r :: st) h Q := go_lo (E := (.aload_n 0, 0, 0, 0)) rfl rfl rfl
theorem s_72_16 : Go d 72 16 L (.ref 2 :: st) (HP lx xs M) Q = Go d 72 19 L (.ref 11 :: st) (HP lx xs M) Q := go_gf rfl rfl (by decide) rfl
theorem s_72_19 : Go d 72 19 [o0, o1, some (.int x)] (st) h Q = Go d 72 20 [o0, o1, some (.int x)] (.int x :: st) h Q := go_lo (E := (.iload_n 2, 0, 0, 0)) rfl rfl rfl
theorem s_72_20 : Go d 72 20 L (.int x :: .ref 11 :: st) (HP lx xs M) Q = (ex_in x 6 = true ∧ Go d 72 21 L (.int (M 11 x.toNatClampNeg) :: st) (HP lx xs M) Q) := go_al rfl rfl
theorem s_72_21 : Go d 72 21 [some (.ref r), o1, o2] (st) h Q = Go d 72 22 [some (.ref r), o1, o2] (.ref r :: st) h Q := go_lo (E := (.aload_n 0, 0, 0, 0)) rfl rfl rfl
theorem s_72_22 : Go d 72 22 L (.ref 2 :: st) (HP lx xs M) Q = Go d 72 25 L (.ref 12 :: st) (HP lx xs M) Q := go_gf rfl rfl (by decide) rfl
theorem s_72_25 : Go d 72 25 [o0, o1, some (.int x)] (st) h Q = Go d 72 26 [o0, o1, some (.int x)] (.int x :: st) h Q := go_lo (E := (.iload_n 2, 0, 0, 0)) rfl rfl rfl
theorem s_72_26 : Go d 72 26 L (.int x :: .ref 12 :: st) (HP lx xs M) Q = (ex_in x 6 = true ∧ Go d 72 27 L (.int (M 12 x.toNatClampNeg) :: st) (HP lx xs M) Q) := go_al rfl rfl
theorem s_72_27 : Go d 72 27 L (st) h Q = Go d 72 28 L (.int (-1) :: st) h Q := go_ic rfl ci_im1
theorem s_72_28 : Go d 72 28 L (.int y :: .int x :: st) h Q = Go d 72 29 L (.int (x ^^^ y) :: st) h Q := go_op (E := (.ixor, 0, 0, 0)) rfl rfl
theorem s_72_29 : Go d 72 29 L (.int y :: .int x :: st) h Q = Go d 72 30 L (.int (x &&& y) :: st) h Q := go_op (E := (.iand, 0, 0, 0)) rfl rfl
theorem s_72_30 : Go d 72 30 L (.int x :: st) h Q = (if x = 0 then Go d 72 35 L st h Q else Go d 72 33 L st h Q) := go_ifeq rfl
theorem s_72_33 : Go d 72 33 L (st) h Q = Go d 72 34 L (.int (nI 0) :: st) h Q := go_ic rfl ci_i0
theorem s_72_34_0 : Go d 72 34 L [.int (nI 0)] h Q = Q (some (.int (nI 0))) h := go_rz rfl rfl (by decide)
theorem s_72_34_1 : Go d 72 34 L [.int (nI 1)] h Q = Q (some (.int (nI 1))) h := go_rz rfl rfl (by decide)
theorem s_72_35 : Go d 72 35 [o0, o1, some (.int x)] (st) h Q = Go d 72 38 [o0, o1, some (.int (x + nI 1))] (st) h Q := (ci_i1 ▸ go_lo (E := (.iinc 2 1, 0, 0, 0)) rfl rfl rfl : _ = Go d 72 38 [o0, o1, some (.int (x + nI 1))] (st) h Q)
theorem s_72_38 : Go d 72 38 L (st) h Q = Go d 72 2 L (st) h Q := go_goto rfl
theorem s_72_41 : Go d 72 41 L (st) h Q = Go d 72 42 L (.int (nI 1) :: st) h Q := go_ic rfl ci_i1
theorem s_72_42_0 : Go d 72 42 L [.int (nI 0)] h Q = Q (some (.int (nI 0))) h := go_rz rfl rfl (by decide)
theorem s_72_42_1 : Go d 72 42 L [.int (nI 1)] h Q = Q (some (.int (nI 1))) h := go_rz rfl rfl (by decide)
theorem s_73_0 : Go d 73 0 L (st) h Q = Go d 73 1 L (.int (nI 0) :: st) h Q := go_ic rfl ci_i0
theorem s_73_1 : Go d 73 1 [o0, o1, o2] (.int x :: st) h Q = Go d 73 2 [o0, o1, some (.int x)] (st) h Q := go_lo (E := (.istore_n 2, 0, 0, 0)) rfl rfl rfl
theorem s_73_2 : Go d 73 2 [o0, o1, some (.int x)] (st) h Q = Go d 73 3 [o0, o1, some (.int x)] (.int x :: st) h Q := go_lo (E := (.iload_n 2, 0, 0, 0)) rfl rfl rfl
theorem s_73_3 : Go d 73 3 L (st) h Q = Go d 73 4 L (.int (nI 4) :: st) h Q := go_ic rfl ci_i4
theorem s_73_4 : Go d 73 4 L (.int y :: .int x :: st) h Q = (if x < y then Go d 73 7 L st h Q else Go d 73 34 L st h Q) := go_icge rfl
theorem s_73_7 : Go d 73 7 [o0, some (.int x), o2] (st) h Q = Go d 73 8 [o0, some (.int x), o2] (.int x :: st) h Q := go_lo (E := (.iload_n 1, 0, 0, 0)) rfl rfl rfl
theorem s_73_8 : Go d 73 8 [o0, o1, some (.int x)] (st) h Q = Go d 73 9 [o0, o1, some (.int x)] (.int x :: st) h Q := go_lo (E := (.iload_n 2, 0, 0, 0)) rfl rfl rfl
theorem s_73_9 {a0 : Int32} {a1 : Int32} : Go (d + 1) 73 9 L [.int a1, .int a0] h Q = Go d 49 0 [some (.int a0), some (.int a1)] [] h (fun v h2 => Go (d + 1) 73 12 L (ap v []) h2 Q) := go_cx (E := (.invokestatic 60, 49, 1, 0)) (k' := 49) (as := [.int a0, .int a1]) rfl rfl rfl rfl rfl rfl rfl rfl
theorem s_73_12 : Go d 73 12 L (.int x :: st) h Q = (if x = 0 then Go d 73 28 L st h Q else Go d 73 15 L st h Q) := go_ifeq rfl
theorem s_73_15 : Go d 73 15 [some (.ref r), o1, o2] (st) h Q = Go d 73 16 [some (.ref r), o1, o2] (.ref r :: st) h Q := go_lo (E := (.aload_n 0, 0, 0, 0)) rfl rfl rfl
theorem s_73_16 : Go d 73 16 L (.ref 2 :: st) (HP lx xs M) Q = Go d 73 19 L (.ref 7 :: st) (HP lx xs M) Q := go_gf rfl rfl (by decide) rfl
theorem s_73_19 : Go d 73 19 [o0, o1, some (.int x)] (st) h Q = Go d 73 20 [o0, o1, some (.int x)] (.int x :: st) h Q := go_lo (E := (.iload_n 2, 0, 0, 0)) rfl rfl rfl
theorem s_73_20 : Go d 73 20 L (.int x :: .ref 7 :: st) (HP lx xs M) Q = (ex_in x 4 = true ∧ Go d 73 21 L (.int (M 7 x.toNatClampNeg) :: st) (HP lx xs M) Q) := go_al rfl rfl
theorem s_73_21 : Go d 73 21 [o0, some (.int x), o2] (st) h Q = Go d 73 22 [o0, some (.int x), o2] (.int x :: st) h Q := go_lo (E := (.iload_n 1, 0, 0, 0)) rfl rfl rfl
theorem s_73_22 : Go d 73 22 L (.int y :: .int x :: st) h Q = Go d 73 23 L (.int (x &&& y) :: st) h Q := go_op (E := (.iand, 0, 0, 0)) rfl rfl
theorem s_73_23 : Go d 73 23 L (.int x :: st) h Q = (if x = 0 then Go d 73 26 L st h Q else Go d 73 28 L st h Q) := go_ifne rfl
theorem s_73_26 : Go d 73 26 [o0, o1, some (.int x)] (st) h Q = Go d 73 27 [o0, o1, some (.int x)] (.int x :: st) h Q := go_lo (E := (.iload_n 2, 0, 0, 0)) rfl rfl rfl
theorem s_73_27 : Go d 73 27 L [.int x] h Q = Q (some (.int x)) h := go_ri rfl rfl
theorem s_73_28 : Go d 73 28 [o0, o1, some (.int x)] (st) h Q = Go d 73 31 [o0, o1, some (.int (x + nI 1))] (st) h Q := (ci_i1 ▸ go_lo (E := (.iinc 2 1, 0, 0, 0)) rfl rfl rfl : _ = Go d 73 31 [o0, o1, some (.int (x + nI 1))] (st) h Q)
theorem s_73_31 : Go d 73 31 L (st) h Q = Go d 73 2 L (st) h Q := go_goto rfl
theorem s_73_34 : Go d 73 34 L (st) h Q = Go d 73 36 L (.int (-4) :: st) h Q := go_bi rfl ci_bm4
theorem s_73_36 : Go d 73 36 L [.int x] h Q = Q (some (.int x)) h := go_ri rfl rfl
theorem s_74_0 : Go d 74 0 [some (.ref r), o1] (st) h Q = Go d 74 1 [some (.ref r), o1] (.ref r :: st) h Q := go_lo (E := (.aload_n 0, 0, 0, 0)) rfl rfl rfl
theorem s_74_1  : Go (d + 1) 74 1 L [.ref 2] (HP lx xs M) Q = Go d 75 0 [some (.ref 2), none, none] [] (HP lx xs M) (fun v h2 => Go (d + 1) 74 4 L (ap v []) h2 Q) := go_cx (E := (.invokevirtual 139, 75, 0, 3)) (k' := 75) (as := [.ref 2]) rfl rfl rfl rfl rfl rfl rfl rfl
theorem s_74_4 : Go d 74 4 [o0, o1] (.int x :: st) h Q = Go d 74 5 [o0, some (.int x)] (st) h Q := go_lo (E := (.istore_n 1, 0, 0, 0)) rfl rfl rfl
theorem s_74_5 : Go d 74 5 [o0, some (.int x)] (st) h Q = Go d 74 6 [o0, some (.int x)] (.int x :: st) h Q := go_lo (E := (.iload_n 1, 0, 0, 0)) rfl rfl rfl
theorem s_74_6 : Go d 74 6 L (.int x :: st) h Q = (if x = 0 then Go d 74 9 L st h Q else Go d 74 11 L st h Q) := go_ifne rfl
theorem s_74_9 : Go d 74 9 L (st) h Q = Go d 74 10 L (.int (nI 0) :: st) h Q := go_ic rfl ci_i0
theorem s_74_10_0 : Go d 74 10 L [.int (nI 0)] h Q = Q (some (.int (nI 0))) h := go_rz rfl rfl (by decide)
theorem s_74_10_1 : Go d 74 10 L [.int (nI 1)] h Q = Q (some (.int (nI 1))) h := go_rz rfl rfl (by decide)
theorem s_74_11 : Go d 74 11 [some (.ref r), o1] (st) h Q = Go d 74 12 [some (.ref r), o1] (.ref r :: st) h Q := go_lo (E := (.aload_n 0, 0, 0, 0)) rfl rfl rfl
theorem s_74_12 : Go d 74 12 [some (.ref r), o1] (st) h Q = Go d 74 13 [some (.ref r), o1] (.ref r :: st) h Q := go_lo (E := (.aload_n 0, 0, 0, 0)) rfl rfl rfl
theorem s_74_13 : Go d 74 13 L (.ref 2 :: st) (HP lx xs M) Q = Go d 74 16 L (.int (M 2 2) :: st) (HP lx xs M) Q := go_gf rfl rfl (by decide) rfl
theorem s_74_16 : Go d 74 16 L (st) h Q = Go d 74 18 L (.int (nI 1103515245) :: st) h Q := go_ld rfl ci_i1103515245
theorem s_74_18 : Go d 74 18 L (.int y :: .int x :: st) h Q = Go d 74 19 L (.int (x * y) :: st) h Q := go_op (E := (.imul, 0, 0, 0)) rfl rfl
theorem s_74_19 : Go d 74 19 L (st) h Q = Go d 74 22 L (.int (nI 12345) :: st) h Q := go_si rfl ci_s12345
theorem s_74_22 : Go d 74 22 L (.int y :: .int x :: st) h Q = Go d 74 23 L (.int (x + y) :: st) h Q := go_op (E := (.iadd, 0, 0, 0)) rfl rfl
theorem s_74_23 : Go d 74 23 L (st) h Q = Go d 74 25 L (.int (nI 2147483647) :: st) h Q := go_ld rfl ci_i2147483647
theorem s_74_25 : Go d 74 25 L (.int y :: .int x :: st) h Q = Go d 74 26 L (.int (x &&& y) :: st) h Q := go_op (E := (.iand, 0, 0, 0)) rfl rfl
theorem s_74_26 : Go d 74 26 L (.int x :: .ref 2 :: st) (HP lx xs M) Q = Go d 74 29 L (st) (HP lx xs (up M 2 2 x)) Q := go_pf rfl rfl (by decide) (Nat.le_of_ble_eq_true rfl) rfl hf_2_2
theorem s_74_29 : Go d 74 29 [some (.ref r), o1] (st) h Q = Go d 74 30 [some (.ref r), o1] (.ref r :: st) h Q := go_lo (E := (.aload_n 0, 0, 0, 0)) rfl rfl rfl
theorem s_74_30 : Go d 74 30 [some (.ref r), o1] (st) h Q = Go d 74 31 [some (.ref r), o1] (.ref r :: st) h Q := go_lo (E := (.aload_n 0, 0, 0, 0)) rfl rfl rfl
theorem s_74_31 : Go d 74 31 L (.ref 2 :: st) (HP lx xs M) Q = Go d 74 34 L (.ref 13 :: st) (HP lx xs M) Q := go_gf rfl rfl (by decide) rfl
theorem s_74_34 : Go d 74 34 [some (.ref r), o1] (st) h Q = Go d 74 35 [some (.ref r), o1] (.ref r :: st) h Q := go_lo (E := (.aload_n 0, 0, 0, 0)) rfl rfl rfl
theorem s_74_35 : Go d 74 35 L (.ref 2 :: st) (HP lx xs M) Q = Go d 74 38 L (.int (M 2 2) :: st) (HP lx xs M) Q := go_gf rfl rfl (by decide) rfl
theorem s_74_38 : Go d 74 38 L (st) h Q = Go d 74 40 L (.int (nI 65536) :: st) h Q := go_ld rfl ci_i65536
theorem s_74_40 : Go d 74 40 L (.int y :: .int x :: st) h Q = (¬ y = 0 ∧ Go d 74 41 L (.int (x / y) :: st) h Q) := go_idv rfl
theorem s_74_41 : Go d 74 41 [o0, some (.int x)] (st) h Q = Go d 74 42 [o0, some (.int x)] (.int x :: st) h Q := go_lo (E := (.iload_n 1, 0, 0, 0)) rfl rfl rfl
theorem s_74_42 : Go d 74 42 L (.int y :: .int x :: st) h Q = (¬ y = 0 ∧ Go d 74 43 L (.int (x - x / y * y) :: st) h Q) := go_irm rfl
theorem s_74_43 : Go d 74 43 L (.int x :: .ref 13 :: st) (HP lx xs M) Q = (ex_in x 144 = true ∧ Go d 74 44 L (.int (M 13 x.toNatClampNeg) :: st) (HP lx xs M) Q) := go_al rfl rfl
theorem s_74_44 {a1 : Int32} : Go (d + 1) 74 44 L [.int a1, .ref 2] (HP lx xs M) Q = Go d 68 0 [some (.ref 2), some (.int a1), none, none] [] (HP lx xs M) (fun v h2 => Go (d + 1) 74 47 L (ap v []) h2 Q) := go_cx (E := (.invokevirtual 128, 68, 0, 3)) (k' := 68) (as := [.ref 2, .int a1]) rfl rfl rfl rfl rfl rfl rfl rfl
theorem s_74_47 : Go d 74 47 L (st) h Q = Go d 74 48 L (.int (nI 1) :: st) h Q := go_ic rfl ci_i1
theorem s_74_48_0 : Go d 74 48 L [.int (nI 0)] h Q = Q (some (.int (nI 0))) h := go_rz rfl rfl (by decide)
theorem s_74_48_1 : Go d 74 48 L [.int (nI 1)] h Q = Q (some (.int (nI 1))) h := go_rz rfl rfl (by decide)
theorem s_75_0 : Go d 75 0 L (st) h Q = Go d 75 1 L (.int (nI 0) :: st) h Q := go_ic rfl ci_i0
theorem s_75_1 : Go d 75 1 [o0, o1, o2] (.int x :: st) h Q = Go d 75 2 [o0, some (.int x), o2] (st) h Q := go_lo (E := (.istore_n 1, 0, 0, 0)) rfl rfl rfl
theorem s_75_2 : Go d 75 2 L (st) h Q = Go d 75 3 L (.int (nI 0) :: st) h Q := go_ic rfl ci_i0
theorem s_75_3 : Go d 75 3 [o0, o1, o2] (.int x :: st) h Q = Go d 75 4 [o0, o1, some (.int x)] (st) h Q := go_lo (E := (.istore_n 2, 0, 0, 0)) rfl rfl rfl
theorem s_75_4 : Go d 75 4 [o0, o1, some (.int x)] (st) h Q = Go d 75 5 [o0, o1, some (.int x)] (.int x :: st) h Q := go_lo (E := (.iload_n 2, 0, 0, 0)) rfl rfl rfl
theorem s_75_5 : Go d 75 5 L (st) h Q = Go d 75 8 L (.int (nI 144) :: st) h Q := go_si rfl ci_s144
theorem s_75_8 : Go d 75 8 L (.int y :: .int x :: st) h Q = (if x < y then Go d 75 11 L st h Q else Go d 75 58 L st h Q) := go_icge rfl
theorem s_75_11 : Go d 75 11 [some (.ref r), o1, o2] (st) h Q = Go d 75 12 [some (.ref r), o1, o2] (.ref r :: st) h Q := go_lo (E := (.aload_n 0, 0, 0, 0)) rfl rfl rfl
theorem s_75_12 : Go d 75 12 [o0, o1, some (.int x)] (st) h Q = Go d 75 13 [o0, o1, some (.int x)] (.int x :: st) h Q := go_lo (E := (.iload_n 2, 0, 0, 0)) rfl rfl rfl
theorem s_75_13 {a0 : Int32} {zr0 : Nat} : Go (d + 1) 75 13 L [.int a0, .ref zr0] h Q = Go d 52 0 [some (.int a0)] [] h (fun v h2 => Go (d + 1) 75 16 L (ap v [.ref zr0]) h2 Q) := go_cx (E := (.invokestatic 94, 52, 1, 0)) (k' := 52) (as := [.int a0]) rfl rfl rfl rfl rfl rfl rfl rfl
theorem s_75_16 : Go d 75 16 [o0, o1, some (.int x)] (st) h Q = Go d 75 17 [o0, o1, some (.int x)] (.int x :: st) h Q := go_lo (E := (.iload_n 2, 0, 0, 0)) rfl rfl rfl
theorem s_75_17 {a0 : Int32} {z1 : Int32} {zr0 : Nat} : Go (d + 1) 75 17 L [.int a0, .int z1, .ref zr0] h Q = Go d 53 0 [some (.int a0)] [] h (fun v h2 => Go (d + 1) 75 20 L (ap v [.int z1, .ref zr0]) h2 Q) := go_cx (E := (.invokestatic 97, 53, 1, 0)) (k' := 53) (as := [.int a0]) rfl rfl rfl rfl rfl rfl rfl rfl
theorem s_75_20 : Go d 75 20 [o0, o1, some (.int x)] (st) h Q = Go d 75 21 [o0, o1, some (.int x)] (.int x :: st) h Q := go_lo (E := (.iload_n 2, 0, 0, 0)) rfl rfl rfl
theorem s_75_21 {a0 : Int32} {z1 : Int32} {z2 : Int32} {zr0 : Nat} : Go (d + 1) 75 21 L [.int a0, .int z2, .int z1, .ref zr0] h Q = Go d 54 0 [some (.int a0)] [] h (fun v h2 => Go (d + 1) 75 24 L (ap v [.int z2, .int z1, .ref zr0]) h2 Q) := go_cx (E := (.invokestatic 100, 54, 1, 0)) (k' := 54) (as := [.int a0]) rfl rfl rfl rfl rfl rfl rfl rfl
theorem s_75_24 {a1 : Int32} {a2 : Int32} {a3 : Int32} : Go (d + 1) 75 24 L [.int a3, .int a2, .int a1, .ref 2] (HP lx xs M) Q = Go d 58 0 [some (.ref 2), some (.int a1), some (.int a2), some (.int a3)] [] (HP lx xs M) (fun v h2 => Go (d + 1) 75 27 L (ap v []) h2 Q) := go_cx (E := (.invokevirtual 146, 58, 0, 3)) (k' := 58) (as := [.ref 2, .int a1, .int a2, .int a3]) rfl rfl rfl rfl rfl rfl rfl rfl
theorem s_75_27 : Go d 75 27 L (.int x :: st) h Q = (if x = 0 then Go d 75 52 L st h Q else Go d 75 30 L st h Q) := go_ifeq rfl
theorem s_75_30 : Go d 75 30 [some (.ref r), o1, o2] (st) h Q = Go d 75 31 [some (.ref r), o1, o2] (.ref r :: st) h Q := go_lo (E := (.aload_n 0, 0, 0, 0)) rfl rfl rfl
theorem s_75_31 : Go d 75 31 [some (.ref r), o1, o2] (st) h Q = Go d 75 32 [some (.ref r), o1, o2] (.ref r :: st) h Q := go_lo (E := (.aload_n 0, 0, 0, 0)) rfl rfl rfl
theorem s_75_32 : Go d 75 32 L (.ref 2 :: st) (HP lx xs M) Q = Go d 75 35 L (.ref 5 :: st) (HP lx xs M) Q := go_gf rfl rfl (by decide) rfl
theorem s_75_35 : Go d 75 35 [o0, o1, some (.int x)] (st) h Q = Go d 75 36 [o0, o1, some (.int x)] (.int x :: st) h Q := go_lo (E := (.iload_n 2, 0, 0, 0)) rfl rfl rfl
theorem s_75_36 {a2 : Int32} {ar1 : Nat} : Go (d + 1) 75 36 L [.int a2, .ref ar1, .ref 2] (HP lx xs M) Q = Go d 67 0 [some (.ref 2), some (.ref ar1), some (.int a2), none, none, none] [] (HP lx xs M) (fun v h2 => Go (d + 1) 75 39 L (ap v []) h2 Q) := go_cx (E := (.invokevirtual 124, 67, 0, 3)) (k' := 67) (as := [.ref 2, .ref ar1, .int a2]) rfl rfl rfl rfl rfl rfl rfl rfl
theorem s_75_39 : Go d 75 39 L (.int x :: st) h Q = (if x = 0 then Go d 75 52 L st h Q else Go d 75 42 L st h Q) := go_ifeq rfl
theorem s_75_42 : Go d 75 42 [some (.ref r), o1, o2] (st) h Q = Go d 75 43 [some (.ref r), o1, o2] (.ref r :: st) h Q := go_lo (E := (.aload_n 0, 0, 0, 0)) rfl rfl rfl
theorem s_75_43 : Go d 75 43 L (.ref 2 :: st) (HP lx xs M) Q = Go d 75 46 L (.ref 13 :: st) (HP lx xs M) Q := go_gf rfl rfl (by decide) rfl
theorem s_75_46 : Go d 75 46 [o0, some (.int x), o2] (st) h Q = Go d 75 47 [o0, some (.int x), o2] (.int x :: st) h Q := go_lo (E := (.iload_n 1, 0, 0, 0)) rfl rfl rfl
theorem s_75_47 : Go d 75 47 [o0, some (.int x), o2] (st) h Q = Go d 75 50 [o0, some (.int (x + nI 1)), o2] (st) h Q := (ci_i1 ▸ go_lo (E := (.iinc 1 1, 0, 0, 0)) rfl rfl rfl : _ = Go d 75 50 [o0, some (.int (x + nI 1)), o2] (st) h Q)
theorem s_75_50 : Go d 75 50 [o0, o1, some (.int x)] (st) h Q = Go d 75 51 [o0, o1, some (.int x)] (.int x :: st) h Q := go_lo (E := (.iload_n 2, 0, 0, 0)) rfl rfl rfl
theorem s_75_51 : Go d 75 51 L (.int y :: .int x :: .ref 13 :: st) (HP lx xs M) Q = (ex_in x 144 = true ∧ Go d 75 52 L (st) (HP lx xs (up M 13 x.toNatClampNeg y)) Q) := go_as rfl rfl (by decide) hs_13
theorem s_75_52 : Go d 75 52 [o0, o1, some (.int x)] (st) h Q = Go d 75 55 [o0, o1, some (.int (x + nI 1))] (st) h Q := (ci_i1 ▸ go_lo (E := (.iinc 2 1, 0, 0, 0)) rfl rfl rfl : _ = Go d 75 55 [o0, o1, some (.int (x + nI 1))] (st) h Q)
theorem s_75_55 : Go d 75 55 L (st) h Q = Go d 75 4 L (st) h Q := go_goto rfl
theorem s_75_58 : Go d 75 58 [o0, some (.int x), o2] (st) h Q = Go d 75 59 [o0, some (.int x), o2] (.int x :: st) h Q := go_lo (E := (.iload_n 1, 0, 0, 0)) rfl rfl rfl
theorem s_75_59 : Go d 75 59 L [.int x] h Q = Q (some (.int x)) h := go_ri rfl rfl
theorem s_76_0 : Go d 76 0 L (st) h Q = Go d 76 1 L (.int (nI 0) :: st) h Q := go_ic rfl ci_i0
theorem s_76_1 : Go d 76 1 [o0, o1, o2, o3, o4, o5, o6, o7] (.int x :: st) h Q = Go d 76 3 [o0, o1, o2, o3, some (.int x), o5, o6, o7] (st) h Q := go_lo (E := (.istore 4, 0, 0, 0)) rfl rfl rfl
theorem s_76_3 : Go d 76 3 L (st) h Q = Go d 76 4 L (.int (nI 0) :: st) h Q := go_ic rfl ci_i0
theorem s_76_4 : Go d 76 4 [o0, o1, o2, o3, o4, o5, o6, o7] (.int x :: st) h Q = Go d 76 6 [o0, o1, o2, o3, o4, some (.int x), o6, o7] (st) h Q := go_lo (E := (.istore 5, 0, 0, 0)) rfl rfl rfl
theorem s_76_6 : Go d 76 6 [o0, o1, o2, o3, o4, some (.int x), o6, o7] (st) h Q = Go d 76 8 [o0, o1, o2, o3, o4, some (.int x), o6, o7] (.int x :: st) h Q := go_lo (E := (.iload 5, 0, 0, 0)) rfl rfl rfl
theorem s_76_8 : Go d 76 8 [o0, o1, o2, some (.int x), o4, o5, o6, o7] (st) h Q = Go d 76 9 [o0, o1, o2, some (.int x), o4, o5, o6, o7] (.int x :: st) h Q := go_lo (E := (.iload_n 3, 0, 0, 0)) rfl rfl rfl
theorem s_76_9 : Go d 76 9 L (.int y :: .int x :: st) h Q = (if x < y then Go d 76 12 L st h Q else Go d 76 117 L st h Q) := go_icge rfl
theorem s_76_12 : Go d 76 12 [o0, o1, some (.int x), o3, o4, o5, o6, o7] (st) h Q = Go d 76 13 [o0, o1, some (.int x), o3, o4, o5, o6, o7] (.int x :: st) h Q := go_lo (E := (.iload_n 2, 0, 0, 0)) rfl rfl rfl
theorem s_76_13 : Go d 76 13 L (st) h Q = Go d 76 14 L (.int (nI 3) :: st) h Q := go_ic rfl ci_i3
theorem s_76_14 : Go d 76 14 [o0, o1, o2, o3, o4, some (.int x), o6, o7] (st) h Q = Go d 76 16 [o0, o1, o2, o3, o4, some (.int x), o6, o7] (.int x :: st) h Q := go_lo (E := (.iload 5, 0, 0, 0)) rfl rfl rfl
theorem s_76_16 : Go d 76 16 L (.int y :: .int x :: st) h Q = Go d 76 17 L (.int (x * y) :: st) h Q := go_op (E := (.imul, 0, 0, 0)) rfl rfl
theorem s_76_17 : Go d 76 17 L (.int y :: .int x :: st) h Q = Go d 76 18 L (.int (x + y) :: st) h Q := go_op (E := (.iadd, 0, 0, 0)) rfl rfl
theorem s_76_18 : Go d 76 18 [o0, o1, o2, o3, o4, o5, o6, o7] (.int x :: st) h Q = Go d 76 20 [o0, o1, o2, o3, o4, o5, some (.int x), o7] (st) h Q := go_lo (E := (.istore 6, 0, 0, 0)) rfl rfl rfl
theorem s_76_20 : Go d 76 20 [some (.ref r), o1, o2, o3, o4, o5, o6, o7] (st) h Q = Go d 76 21 [some (.ref r), o1, o2, o3, o4, o5, o6, o7] (.ref r :: st) h Q := go_lo (E := (.aload_n 0, 0, 0, 0)) rfl rfl rfl
theorem s_76_21 : Go d 76 21 [o0, some (.ref r), o2, o3, o4, o5, o6, o7] (st) h Q = Go d 76 22 [o0, some (.ref r), o2, o3, o4, o5, o6, o7] (.ref r :: st) h Q := go_lo (E := (.aload_n 1, 0, 0, 0)) rfl rfl rfl
theorem s_76_22 : Go d 76 22 [o0, o1, o2, o3, o4, o5, some (.int x), o7] (st) h Q = Go d 76 24 [o0, o1, o2, o3, o4, o5, some (.int x), o7] (.int x :: st) h Q := go_lo (E := (.iload 6, 0, 0, 0)) rfl rfl rfl
theorem s_76_24_46 : Go d 76 24 L (.int x :: .ref 46 :: st) (HP lx xs M) Q = (ex_in x 24 = true ∧ Go d 76 25 L (.int (M 46 x.toNatClampNeg) :: st) (HP lx xs M) Q) := go_al rfl rfl
theorem s_76_24_48 : Go d 76 24 L (.int x :: .ref 48 :: st) (HP lx xs M) Q = (ex_in x 24 = true ∧ Go d 76 25 L (.int (M 48 x.toNatClampNeg) :: st) (HP lx xs M) Q) := go_al rfl rfl
theorem s_76_24_50 : Go d 76 24 L (.int x :: .ref 50 :: st) (HP lx xs M) Q = (ex_in x 24 = true ∧ Go d 76 25 L (.int (M 50 x.toNatClampNeg) :: st) (HP lx xs M) Q) := go_al rfl rfl
theorem s_76_24_52 : Go d 76 24 L (.int x :: .ref 52 :: st) (HP lx xs M) Q = (ex_in x 24 = true ∧ Go d 76 25 L (.int (M 52 x.toNatClampNeg) :: st) (HP lx xs M) Q) := go_al rfl rfl
theorem s_76_25 : Go d 76 25 [o0, some (.ref r), o2, o3, o4, o5, o6, o7] (st) h Q = Go d 76 26 [o0, some (.ref r), o2, o3, o4, o5, o6, o7] (.ref r :: st) h Q := go_lo (E := (.aload_n 1, 0, 0, 0)) rfl rfl rfl
theorem s_76_26 : Go d 76 26 [o0, o1, o2, o3, o4, o5, some (.int x), o7] (st) h Q = Go d 76 28 [o0, o1, o2, o3, o4, o5, some (.int x), o7] (.int x :: st) h Q := go_lo (E := (.iload 6, 0, 0, 0)) rfl rfl rfl
theorem s_76_28 : Go d 76 28 L (st) h Q = Go d 76 29 L (.int (nI 1) :: st) h Q := go_ic rfl ci_i1
theorem s_76_29 : Go d 76 29 L (.int y :: .int x :: st) h Q = Go d 76 30 L (.int (x + y) :: st) h Q := go_op (E := (.iadd, 0, 0, 0)) rfl rfl
theorem s_76_30_46 : Go d 76 30 L (.int x :: .ref 46 :: st) (HP lx xs M) Q = (ex_in x 24 = true ∧ Go d 76 31 L (.int (M 46 x.toNatClampNeg) :: st) (HP lx xs M) Q) := go_al rfl rfl
theorem s_76_30_48 : Go d 76 30 L (.int x :: .ref 48 :: st) (HP lx xs M) Q = (ex_in x 24 = true ∧ Go d 76 31 L (.int (M 48 x.toNatClampNeg) :: st) (HP lx xs M) Q) := go_al rfl rfl
theorem s_76_30_50 : Go d 76 30 L (.int x :: .ref 50 :: st) (HP lx xs M) Q = (ex_in x 24 = true ∧ Go d 76 31 L (.int (M 50 x.toNatClampNeg) :: st) (HP lx xs M) Q) := go_al rfl rfl
theorem s_76_30_52 : Go d 76 30 L (.int x :: .ref 52 :: st) (HP lx xs M) Q = (ex_in x 24 = true ∧ Go d 76 31 L (.int (M 52 x.toNatClampNeg) :: st) (HP lx xs M) Q) := go_al rfl rfl
theorem s_76_31 : Go d 76 31 [o0, some (.ref r), o2, o3, o4, o5, o6, o7] (st) h Q = Go d 76 32 [o0, some (.ref r), o2, o3, o4, o5, o6, o7] (.ref r :: st) h Q := go_lo (E := (.aload_n 1, 0, 0, 0)) rfl rfl rfl
theorem s_76_32 : Go d 76 32 [o0, o1, o2, o3, o4, o5, some (.int x), o7] (st) h Q = Go d 76 34 [o0, o1, o2, o3, o4, o5, some (.int x), o7] (.int x :: st) h Q := go_lo (E := (.iload 6, 0, 0, 0)) rfl rfl rfl
theorem s_76_34 : Go d 76 34 L (st) h Q = Go d 76 35 L (.int (nI 2) :: st) h Q := go_ic rfl ci_i2
theorem s_76_35 : Go d 76 35 L (.int y :: .int x :: st) h Q = Go d 76 36 L (.int (x + y) :: st) h Q := go_op (E := (.iadd, 0, 0, 0)) rfl rfl
theorem s_76_36_46 : Go d 76 36 L (.int x :: .ref 46 :: st) (HP lx xs M) Q = (ex_in x 24 = true ∧ Go d 76 37 L (.int (M 46 x.toNatClampNeg) :: st) (HP lx xs M) Q) := go_al rfl rfl
theorem s_76_36_48 : Go d 76 36 L (.int x :: .ref 48 :: st) (HP lx xs M) Q = (ex_in x 24 = true ∧ Go d 76 37 L (.int (M 48 x.toNatClampNeg) :: st) (HP lx xs M) Q) := go_al rfl rfl
theorem s_76_36_50 : Go d 76 36 L (.int x :: .ref 50 :: st) (HP lx xs M) Q = (ex_in x 24 = true ∧ Go d 76 37 L (.int (M 50 x.toNatClampNeg) :: st) (HP lx xs M) Q) := go_al rfl rfl
theorem s_76_36_52 : Go d 76 36 L (.int x :: .ref 52 :: st) (HP lx xs M) Q = (ex_in x 24 = true ∧ Go d 76 37 L (.int (M 52 x.toNatClampNeg) :: st) (HP lx xs M) Q) := go_al rfl rfl
theorem s_76_37 {a1 : Int32} {a2 : Int32} {a3 : Int32} : Go (d + 1) 76 37 L [.int a3, .int a2, .int a1, .ref 2] (HP lx xs M) Q = Go d 58 0 [some (.ref 2), some (.int a1), some (.int a2), some (.int a3)] [] (HP lx xs M) (fun v h2 => Go (d + 1) 76 40 L (ap v []) h2 Q) := go_cx (E := (.invokevirtual 146, 58, 0, 3)) (k' := 58) (as := [.ref 2, .int a1, .int a2, .int a3]) rfl rfl rfl rfl rfl rfl rfl rfl
theorem s_76_40 : Go d 76 40 L (.int x :: st) h Q = (if x = 0 then Go d 76 43 L st h Q else Go d 76 45 L st h Q) := go_ifne rfl
theorem s_76_43 : Go d 76 43 L (st) h Q = Go d 76 44 L (.int (nI 0) :: st) h Q := go_ic rfl ci_i0
theorem s_76_44_0 : Go d 76 44 L [.int (nI 0)] h Q = Q (some (.int (nI 0))) h := go_rz rfl rfl (by decide)
theorem s_76_44_1 : Go d 76 44 L [.int (nI 1)] h Q = Q (some (.int (nI 1))) h := go_rz rfl rfl (by decide)
theorem s_76_45 : Go d 76 45 [o0, some (.ref r), o2, o3, o4, o5, o6, o7] (st) h Q = Go d 76 46 [o0, some (.ref r), o2, o3, o4, o5, o6, o7] (.ref r :: st) h Q := go_lo (E := (.aload_n 1, 0, 0, 0)) rfl rfl rfl
theorem s_76_46 : Go d 76 46 [o0, o1, o2, o3, o4, o5, some (.int x), o7] (st) h Q = Go d 76 48 [o0, o1, o2, o3, o4, o5, some (.int x), o7] (.int x :: st) h Q := go_lo (E := (.iload 6, 0, 0, 0)) rfl rfl rfl
theorem s_76_48_46 : Go d 76 48 L (.int x :: .ref 46 :: st) (HP lx xs M) Q = (ex_in x 24 = true ∧ Go d 76 49 L (.int (M 46 x.toNatClampNeg) :: st) (HP lx xs M) Q) := go_al rfl rfl
theorem s_76_48_48 : Go d 76 48 L (.int x :: .ref 48 :: st) (HP lx xs M) Q = (ex_in x 24 = true ∧ Go d 76 49 L (.int (M 48 x.toNatClampNeg) :: st) (HP lx xs M) Q) := go_al rfl rfl
theorem s_76_48_50 : Go d 76 48 L (.int x :: .ref 50 :: st) (HP lx xs M) Q = (ex_in x 24 = true ∧ Go d 76 49 L (.int (M 50 x.toNatClampNeg) :: st) (HP lx xs M) Q) := go_al rfl rfl
theorem s_76_48_52 : Go d 76 48 L (.int x :: .ref 52 :: st) (HP lx xs M) Q = (ex_in x 24 = true ∧ Go d 76 49 L (.int (M 52 x.toNatClampNeg) :: st) (HP lx xs M) Q) := go_al rfl rfl
theorem s_76_49 : Go d 76 49 [o0, some (.ref r), o2, o3, o4, o5, o6, o7] (st) h Q = Go d 76 50 [o0, some (.ref r), o2, o3, o4, o5, o6, o7] (.ref r :: st) h Q := go_lo (E := (.aload_n 1, 0, 0, 0)) rfl rfl rfl
theorem s_76_50 : Go d 76 50 [o0, o1, o2, o3, o4, o5, some (.int x), o7] (st) h Q = Go d 76 52 [o0, o1, o2, o3, o4, o5, some (.int x), o7] (.int x :: st) h Q := go_lo (E := (.iload 6, 0, 0, 0)) rfl rfl rfl
theorem s_76_52 : Go d 76 52 L (st) h Q = Go d 76 53 L (.int (nI 1) :: st) h Q := go_ic rfl ci_i1
theorem s_76_53 : Go d 76 53 L (.int y :: .int x :: st) h Q = Go d 76 54 L (.int (x + y) :: st) h Q := go_op (E := (.iadd, 0, 0, 0)) rfl rfl
theorem s_76_54_46 : Go d 76 54 L (.int x :: .ref 46 :: st) (HP lx xs M) Q = (ex_in x 24 = true ∧ Go d 76 55 L (.int (M 46 x.toNatClampNeg) :: st) (HP lx xs M) Q) := go_al rfl rfl
theorem s_76_54_48 : Go d 76 54 L (.int x :: .ref 48 :: st) (HP lx xs M) Q = (ex_in x 24 = true ∧ Go d 76 55 L (.int (M 48 x.toNatClampNeg) :: st) (HP lx xs M) Q) := go_al rfl rfl
theorem s_76_54_50 : Go d 76 54 L (.int x :: .ref 50 :: st) (HP lx xs M) Q = (ex_in x 24 = true ∧ Go d 76 55 L (.int (M 50 x.toNatClampNeg) :: st) (HP lx xs M) Q) := go_al rfl rfl
theorem s_76_54_52 : Go d 76 54 L (.int x :: .ref 52 :: st) (HP lx xs M) Q = (ex_in x 24 = true ∧ Go d 76 55 L (.int (M 52 x.toNatClampNeg) :: st) (HP lx xs M) Q) := go_al rfl rfl
theorem s_76_55 : Go d 76 55 [o0, some (.ref r), o2, o3, o4, o5, o6, o7] (st) h Q = Go d 76 56 [o0, some (.ref r), o2, o3, o4, o5, o6, o7] (.ref r :: st) h Q := go_lo (E := (.aload_n 1, 0, 0, 0)) rfl rfl rfl
theorem s_76_56 : Go d 76 56 [o0, o1, o2, o3, o4, o5, some (.int x), o7] (st) h Q = Go d 76 58 [o0, o1, o2, o3, o4, o5, some (.int x), o7] (.int x :: st) h Q := go_lo (E := (.iload 6, 0, 0, 0)) rfl rfl rfl
theorem s_76_58 : Go d 76 58 L (st) h Q = Go d 76 59 L (.int (nI 2) :: st) h Q := go_ic rfl ci_i2
theorem s_76_59 : Go d 76 59 L (.int y :: .int x :: st) h Q = Go d 76 60 L (.int (x + y) :: st) h Q := go_op (E := (.iadd, 0, 0, 0)) rfl rfl
theorem s_76_60_46 : Go d 76 60 L (.int x :: .ref 46 :: st) (HP lx xs M) Q = (ex_in x 24 = true ∧ Go d 76 61 L (.int (M 46 x.toNatClampNeg) :: st) (HP lx xs M) Q) := go_al rfl rfl
theorem s_76_60_48 : Go d 76 60 L (.int x :: .ref 48 :: st) (HP lx xs M) Q = (ex_in x 24 = true ∧ Go d 76 61 L (.int (M 48 x.toNatClampNeg) :: st) (HP lx xs M) Q) := go_al rfl rfl
theorem s_76_60_50 : Go d 76 60 L (.int x :: .ref 50 :: st) (HP lx xs M) Q = (ex_in x 24 = true ∧ Go d 76 61 L (.int (M 50 x.toNatClampNeg) :: st) (HP lx xs M) Q) := go_al rfl rfl
theorem s_76_60_52 : Go d 76 60 L (.int x :: .ref 52 :: st) (HP lx xs M) Q = (ex_in x 24 = true ∧ Go d 76 61 L (.int (M 52 x.toNatClampNeg) :: st) (HP lx xs M) Q) := go_al rfl rfl
theorem s_76_61 {a0 : Int32} {a1 : Int32} {a2 : Int32} : Go (d + 1) 76 61 L [.int a2, .int a1, .int a0] h Q = Go d 51 0 [some (.int a0), some (.int a1), some (.int a2)] [] h (fun v h2 => Go (d + 1) 76 64 L (ap v []) h2 Q) := go_cx (E := (.invokestatic 150, 51, 1, 0)) (k' := 51) (as := [.int a0, .int a1, .int a2]) rfl rfl rfl rfl rfl rfl rfl rfl
theorem s_76_64 : Go d 76 64 [o0, o1, o2, o3, o4, o5, o6, o7] (.int x :: st) h Q = Go d 76 66 [o0, o1, o2, o3, o4, o5, o6, some (.int x)] (st) h Q := go_lo (E := (.istore 7, 0, 0, 0)) rfl rfl rfl
theorem s_76_66 : Go d 76 66 [o0, o1, o2, o3, some (.int x), o5, o6, o7] (st) h Q = Go d 76 68 [o0, o1, o2, o3, some (.int x), o5, o6, o7] (.int x :: st) h Q := go_lo (E := (.iload 4, 0, 0, 0)) rfl rfl rfl
theorem s_76_68 : Go d 76 68 [o0, o1, o2, o3, o4, o5, o6, some (.int x)] (st) h Q = Go d 76 70 [o0, o1, o2, o3, o4, o5, o6, some (.int x)] (.int x :: st) h Q := go_lo (E := (.iload 7, 0, 0, 0)) rfl rfl rfl
theorem s_76_70 {a0 : Int32} {z0 : Int32} : Go (d + 1) 76 70 L [.int a0, .int z0] h Q = Go d 55 0 [some (.int a0)] [] h (fun v h2 => Go (d + 1) 76 73 L (ap v [.int z0]) h2 Q) := go_cx (E := (.invokestatic 121, 55, 1, 0)) (k' := 55) (as := [.int a0]) rfl rfl rfl rfl rfl rfl rfl rfl
theorem s_76_73 : Go d 76 73 L (.int y :: .int x :: st) h Q = Go d 76 74 L (.int (x &&& y) :: st) h Q := go_op (E := (.iand, 0, 0, 0)) rfl rfl
theorem s_76_74 : Go d 76 74 L (.int x :: st) h Q = (if x = 0 then Go d 76 77 L st h Q else Go d 76 90 L st h Q) := go_ifne rfl
theorem s_76_77 : Go d 76 77 [some (.ref r), o1, o2, o3, o4, o5, o6, o7] (st) h Q = Go d 76 78 [some (.ref r), o1, o2, o3, o4, o5, o6, o7] (.ref r :: st) h Q := go_lo (E := (.aload_n 0, 0, 0, 0)) rfl rfl rfl
theorem s_76_78 : Go d 76 78 [some (.ref r), o1, o2, o3, o4, o5, o6, o7] (st) h Q = Go d 76 79 [some (.ref r), o1, o2, o3, o4, o5, o6, o7] (.ref r :: st) h Q := go_lo (E := (.aload_n 0, 0, 0, 0)) rfl rfl rfl
theorem s_76_79 : Go d 76 79 L (.ref 2 :: st) (HP lx xs M) Q = Go d 76 82 L (.ref 5 :: st) (HP lx xs M) Q := go_gf rfl rfl (by decide) rfl
theorem s_76_82 : Go d 76 82 [o0, o1, o2, o3, o4, o5, o6, some (.int x)] (st) h Q = Go d 76 84 [o0, o1, o2, o3, o4, o5, o6, some (.int x)] (.int x :: st) h Q := go_lo (E := (.iload 7, 0, 0, 0)) rfl rfl rfl
theorem s_76_84 {a2 : Int32} {ar1 : Nat} : Go (d + 1) 76 84 L [.int a2, .ref ar1, .ref 2] (HP lx xs M) Q = Go d 67 0 [some (.ref 2), some (.ref ar1), some (.int a2), none, none, none] [] (HP lx xs M) (fun v h2 => Go (d + 1) 76 87 L (ap v []) h2 Q) := go_cx (E := (.invokevirtual 124, 67, 0, 3)) (k' := 67) (as := [.ref 2, .ref ar1, .int a2]) rfl rfl rfl rfl rfl rfl rfl rfl
theorem s_76_87 : Go d 76 87 L (.int x :: st) h Q = (if x = 0 then Go d 76 90 L st h Q else Go d 76 92 L st h Q) := go_ifne rfl
theorem s_76_90 : Go d 76 90 L (st) h Q = Go d 76 91 L (.int (nI 0) :: st) h Q := go_ic rfl ci_i0
theorem s_76_91_0 : Go d 76 91 L [.int (nI 0)] h Q = Q (some (.int (nI 0))) h := go_rz rfl rfl (by decide)
theorem s_76_91_1 : Go d 76 91 L [.int (nI 1)] h Q = Q (some (.int (nI 1))) h := go_rz rfl rfl (by decide)
theorem s_76_92 : Go d 76 92 [o0, o1, o2, o3, some (.int x), o5, o6, o7] (st) h Q = Go d 76 94 [o0, o1, o2, o3, some (.int x), o5, o6, o7] (.int x :: st) h Q := go_lo (E := (.iload 4, 0, 0, 0)) rfl rfl rfl
theorem s_76_94 : Go d 76 94 [o0, o1, o2, o3, o4, o5, o6, some (.int x)] (st) h Q = Go d 76 96 [o0, o1, o2, o3, o4, o5, o6, some (.int x)] (.int x :: st) h Q := go_lo (E := (.iload 7, 0, 0, 0)) rfl rfl rfl
theorem s_76_96 {a0 : Int32} {z0 : Int32} : Go (d + 1) 76 96 L [.int a0, .int z0] h Q = Go d 55 0 [some (.int a0)] [] h (fun v h2 => Go (d + 1) 76 99 L (ap v [.int z0]) h2 Q) := go_cx (E := (.invokestatic 121, 55, 1, 0)) (k' := 55) (as := [.int a0]) rfl rfl rfl rfl rfl rfl rfl rfl
theorem s_76_99 : Go d 76 99 L (.int y :: .int x :: st) h Q = Go d 76 100 L (.int (x ||| y) :: st) h Q := go_op (E := (.ior, 0, 0, 0)) rfl rfl
theorem s_76_100 : Go d 76 100 [o0, o1, o2, o3, o4, o5, o6, o7] (.int x :: st) h Q = Go d 76 102 [o0, o1, o2, o3, some (.int x), o5, o6, o7] (st) h Q := go_lo (E := (.istore 4, 0, 0, 0)) rfl rfl rfl
theorem s_76_102 : Go d 76 102 [some (.ref r), o1, o2, o3, o4, o5, o6, o7] (st) h Q = Go d 76 103 [some (.ref r), o1, o2, o3, o4, o5, o6, o7] (.ref r :: st) h Q := go_lo (E := (.aload_n 0, 0, 0, 0)) rfl rfl rfl
theorem s_76_103 : Go d 76 103 L (.ref 2 :: st) (HP lx xs M) Q = Go d 76 106 L (.ref 14 :: st) (HP lx xs M) Q := go_gf rfl rfl (by decide) rfl
theorem s_76_106 : Go d 76 106 [o0, o1, o2, o3, o4, some (.int x), o6, o7] (st) h Q = Go d 76 108 [o0, o1, o2, o3, o4, some (.int x), o6, o7] (.int x :: st) h Q := go_lo (E := (.iload 5, 0, 0, 0)) rfl rfl rfl
theorem s_76_108 : Go d 76 108 [o0, o1, o2, o3, o4, o5, o6, some (.int x)] (st) h Q = Go d 76 110 [o0, o1, o2, o3, o4, o5, o6, some (.int x)] (.int x :: st) h Q := go_lo (E := (.iload 7, 0, 0, 0)) rfl rfl rfl
theorem s_76_110 : Go d 76 110 L (.int y :: .int x :: .ref 14 :: st) (HP lx xs M) Q = (ex_in x 3 = true ∧ Go d 76 111 L (st) (HP lx xs (up M 14 x.toNatClampNeg y)) Q) := go_as rfl rfl (by decide) hs_14
theorem s_76_111 : Go d 76 111 [o0, o1, o2, o3, o4, some (.int x), o6, o7] (st) h Q = Go d 76 114 [o0, o1, o2, o3, o4, some (.int (x + nI 1)), o6, o7] (st) h Q := (ci_i1 ▸ go_lo (E := (.iinc 5 1, 0, 0, 0)) rfl rfl rfl : _ = Go d 76 114 [o0, o1, o2, o3, o4, some (.int (x + nI 1)), o6, o7] (st) h Q)
theorem s_76_114 : Go d 76 114 L (st) h Q = Go d 76 6 L (st) h Q := go_goto rfl
theorem s_76_117 : Go d 76 117 L (st) h Q = Go d 76 118 L (.int (nI 0) :: st) h Q := go_ic rfl ci_i0
theorem s_76_118 : Go d 76 118 [o0, o1, o2, o3, o4, o5, o6, o7] (.int x :: st) h Q = Go d 76 120 [o0, o1, o2, o3, o4, some (.int x), o6, o7] (st) h Q := go_lo (E := (.istore 5, 0, 0, 0)) rfl rfl rfl
theorem s_76_120 : Go d 76 120 [o0, o1, o2, o3, o4, some (.int x), o6, o7] (st) h Q = Go d 76 122 [o0, o1, o2, o3, o4, some (.int x), o6, o7] (.int x :: st) h Q := go_lo (E := (.iload 5, 0, 0, 0)) rfl rfl rfl
theorem s_76_122 : Go d 76 122 [o0, o1, o2, some (.int x), o4, o5, o6, o7] (st) h Q = Go d 76 123 [o0, o1, o2, some (.int x), o4, o5, o6, o7] (.int x :: st) h Q := go_lo (E := (.iload_n 3, 0, 0, 0)) rfl rfl rfl
theorem s_76_123 : Go d 76 123 L (.int y :: .int x :: st) h Q = (if x < y then Go d 76 126 L st h Q else Go d 76 143 L st h Q) := go_icge rfl
theorem s_76_126 : Go d 76 126 [some (.ref r), o1, o2, o3, o4, o5, o6, o7] (st) h Q = Go d 76 127 [some (.ref r), o1, o2, o3, o4, o5, o6, o7] (.ref r :: st) h Q := go_lo (E := (.aload_n 0, 0, 0, 0)) rfl rfl rfl
theorem s_76_127 : Go d 76 127 [some (.ref r), o1, o2, o3, o4, o5, o6, o7] (st) h Q = Go d 76 128 [some (.ref r), o1, o2, o3, o4, o5, o6, o7] (.ref r :: st) h Q := go_lo (E := (.aload_n 0, 0, 0, 0)) rfl rfl rfl
theorem s_76_128 : Go d 76 128 L (.ref 2 :: st) (HP lx xs M) Q = Go d 76 131 L (.ref 14 :: st) (HP lx xs M) Q := go_gf rfl rfl (by decide) rfl
theorem s_76_131 : Go d 76 131 [o0, o1, o2, o3, o4, some (.int x), o6, o7] (st) h Q = Go d 76 133 [o0, o1, o2, o3, o4, some (.int x), o6, o7] (.int x :: st) h Q := go_lo (E := (.iload 5, 0, 0, 0)) rfl rfl rfl
theorem s_76_133 : Go d 76 133 L (.int x :: .ref 14 :: st) (HP lx xs M) Q = (ex_in x 3 = true ∧ Go d 76 134 L (.int (M 14 x.toNatClampNeg) :: st) (HP lx xs M) Q) := go_al rfl rfl
theorem s_76_134 {a1 : Int32} : Go (d + 1) 76 134 L [.int a1, .ref 2] (HP lx xs M) Q = Go d 68 0 [some (.ref 2), some (.int a1), none, none] [] (HP lx xs M) (fun v h2 => Go (d + 1) 76 137 L (ap v []) h2 Q) := go_cx (E := (.invokevirtual 128, 68, 0, 3)) (k' := 68) (as := [.ref 2, .int a1]) rfl rfl rfl rfl rfl rfl rfl rfl
theorem s_76_137 : Go d 76 137 [o0, o1, o2, o3, o4, some (.int x), o6, o7] (st) h Q = Go d 76 140 [o0, o1, o2, o3, o4, some (.int (x + nI 1)), o6, o7] (st) h Q := (ci_i1 ▸ go_lo (E := (.iinc 5 1, 0, 0, 0)) rfl rfl rfl : _ = Go d 76 140 [o0, o1, o2, o3, o4, some (.int (x + nI 1)), o6, o7] (st) h Q)
theorem s_76_140 : Go d 76 140 L (st) h Q = Go d 76 120 L (st) h Q := go_goto rfl
theorem s_76_143 : Go d 76 143 L (st) h Q = Go d 76 144 L (.int (nI 1) :: st) h Q := go_ic rfl ci_i1
theorem s_76_144_0 : Go d 76 144 L [.int (nI 0)] h Q = Q (some (.int (nI 0))) h := go_rz rfl rfl (by decide)
theorem s_76_144_1 : Go d 76 144 L [.int (nI 1)] h Q = Q (some (.int (nI 1))) h := go_rz rfl rfl (by decide)
end SL
