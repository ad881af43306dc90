section SL
variable {d : Nat} {L : ex_L} {st : List Value} {h : ex_H} {Q : Option Value → ex_H → Prop} {lx : Nat} {xs : Nat → Int32} {M : Nat → Nat → Int32} {x y : Int32} {u w : Int64} {r r2 : Nat} {o0 o1 o2 o3 o4 o5 o6 o7 o8 o9 o10 o11 : Option Value}
theorem s_93_0 : Go d 93 0 [some (.ref r), o1, o2, o3, o4] (st) h Q = Go d 93 1 [some (.ref r), o1, o2, o3, o4] (.ref r :: st) h Q := go_lo (E := (.aload_n 0, 0, 0, 0)) rfl rfl rfl
theorem s_93_1 : Go d 93 1 [o0, some (.ref r), o2, o3, o4] (st) h Q = Go d 93 2 [o0, some (.ref r), o2, o3, o4] (.ref r :: st) h Q := go_lo (E := (.aload_n 1, 0, 0, 0)) rfl rfl rfl
theorem s_93_2 : Go d 93 2 [o0, o1, some (.int x), o3, o4] (st) h Q = Go d 93 3 [o0, o1, some (.int x), o3, o4] (.int x :: st) h Q := go_lo (E := (.iload_n 2, 0, 0, 0)) rfl rfl rfl
theorem s_93_3 {a2 : Int32} {ar1 : Nat} : Go (d + 1) 93 3 L [.int a2, .ref ar1, .ref 35] (HP lx xs M) Q = Go d 94 0 [some (.ref 35), some (.ref ar1), some (.int a2), none, none, none, none] [] (HP lx xs M) (fun v h2 => Go (d + 1) 93 6 L (ap v []) h2 Q) := go_cx (E := (.invokevirtual 31, 94, 0, 4)) (k' := 94) (as := [.ref 35, .ref ar1, .int a2]) rfl rfl rfl rfl rfl rfl rfl rfl
theorem s_93_6 : Go d 93 6 [o0, o1, o2, o3, o4] (.int x :: st) h Q = Go d 93 7 [o0, o1, o2, some (.int x), o4] (st) h Q := go_lo (E := (.istore_n 3, 0, 0, 0)) rfl rfl rfl
theorem s_93_7 : Go d 93 7 [o0, o1, o2, some (.int x), o4] (st) h Q = Go d 93 8 [o0, o1, o2, some (.int x), o4] (.int x :: st) h Q := go_lo (E := (.iload_n 3, 0, 0, 0)) rfl rfl rfl
theorem s_93_8 : Go d 93 8 [some (.ref r), o1, o2, o3, o4] (st) h Q = Go d 93 9 [some (.ref r), o1, o2, o3, o4] (.ref r :: st) h Q := go_lo (E := (.aload_n 0, 0, 0, 0)) rfl rfl rfl
theorem s_93_9 : Go d 93 9 L (.ref 35 :: st) (HP lx xs M) Q = Go d 93 12 L (.int (M 35 8) :: st) (HP lx xs M) Q := go_gf rfl rfl (by decide) rfl
theorem s_93_12 : Go d 93 12 L (.int y :: .int x :: st) h Q = (if x = y then Go d 93 15 L st h Q else Go d 93 17 L st h Q) := go_icne rfl
theorem s_93_15 : Go d 93 15 L (st) h Q = Go d 93 16 L (.int (nI 0) :: st) h Q := go_ic rfl ci_i0
theorem s_93_16 : Go d 93 16 L [.int x] h Q = Q (some (.int x)) h := go_ri rfl rfl
theorem s_93_17 : Go d 93 17 [some (.ref r), o1, o2, o3, o4] (st) h Q = Go d 93 18 [some (.ref r), o1, o2, o3, o4] (.ref r :: st) h Q := go_lo (E := (.aload_n 0, 0, 0, 0)) rfl rfl rfl
theorem s_93_18 : Go d 93 18 [o0, o1, o2, some (.int x), o4] (st) h Q = Go d 93 19 [o0, o1, o2, some (.int x), o4] (.int x :: st) h Q := go_lo (E := (.iload_n 3, 0, 0, 0)) rfl rfl rfl
theorem s_93_19 {a1 : Int32} : Go (d + 1) 93 19 L [.int a1, .ref 35] (HP lx xs M) Q = Go d 98 0 [some (.ref 35), some (.int a1), none, none, none, none, none, none] [] (HP lx xs M) (fun v h2 => Go (d + 1) 93 22 L (ap v []) h2 Q) := go_cx (E := (.invokevirtual 39, 98, 0, 4)) (k' := 98) (as := [.ref 35, .int a1]) rfl rfl rfl rfl rfl rfl rfl rfl
theorem s_93_22 : Go d 93 22 [some (.ref r), o1, o2, o3, o4] (st) h Q = Go d 93 23 [some (.ref r), o1, o2, o3, o4] (.ref r :: st) h Q := go_lo (E := (.aload_n 0, 0, 0, 0)) rfl rfl rfl
theorem s_93_23 : Go d 93 23 L (.ref 35 :: st) (HP lx xs M) Q = Go d 93 26 L (.int (M 35 8) :: st) (HP lx xs M) Q := go_gf rfl rfl (by decide) rfl
theorem s_93_26 : Go d 93 26 L (.int y :: .int x :: st) h Q = (if x = y then Go d 93 32 L st h Q else Go d 93 29 L st h Q) := go_iceq rfl
theorem s_93_29 : Go d 93 29 L (st) h Q = Go d 93 31 L (.int (-4) :: st) h Q := go_bi rfl ci_bm4
theorem s_93_31 : Go d 93 31 L [.int x] h Q = Q (some (.int x)) h := go_ri rfl rfl
theorem s_93_32 : Go d 93 32 [some (.ref r), o1, o2, o3, o4] (st) h Q = Go d 93 33 [some (.ref r), o1, o2, o3, o4] (.ref r :: st) h Q := go_lo (E := (.aload_n 0, 0, 0, 0)) rfl rfl rfl
theorem s_93_33 : Go d 93 33 L (.ref 35 :: st) (HP lx xs M) Q = Go d 93 36 L (.ref 41 :: st) (HP lx xs M) Q := go_gf rfl rfl (by decide) rfl
theorem s_93_36 : Go d 93 36 L (st) h Q = Go d 93 37 L (.int (nI 0) :: st) h Q := go_ic rfl ci_i0
theorem s_93_37 {a1 : Int32} {ar0 : Nat} : Go (d + 1) 93 37 L [.int a1, .ref ar0] h Q = Go d 14 0 [some (.ref ar0), some (.int a1), none, none] [] h (fun v h2 => Go (d + 1) 93 40 L (ap v []) h2 Q) := go_cx (E := (.invokestatic 43, 14, 0, 0)) (k' := 14) (as := [.ref ar0, .int a1]) rfl rfl rfl rfl rfl rfl rfl rfl
theorem s_93_40 : Go d 93 40 L (st) h Q = Go d 93 41 L (.int (nI 1) :: st) h Q := go_ic rfl ci_i1
theorem s_93_41 : Go d 93 41 [o0, o1, o2, o3, o4] (.int x :: st) h Q = Go d 93 43 [o0, o1, o2, o3, some (.int x)] (st) h Q := go_lo (E := (.istore 4, 0, 0, 0)) rfl rfl rfl
theorem s_93_43 : Go d 93 43 [o0, o1, o2, o3, some (.int x)] (st) h Q = Go d 93 45 [o0, o1, o2, o3, some (.int x)] (.int x :: st) h Q := go_lo (E := (.iload 4, 0, 0, 0)) rfl rfl rfl
theorem s_93_45 : Go d 93 45 L (st) h Q = Go d 93 47 L (.int (nI 12) :: st) h Q := go_bi rfl ci_b12
theorem s_93_47 : Go d 93 47 L (.int y :: .int x :: st) h Q = (if y < x then Go d 93 69 L st h Q else Go d 93 50 L st h Q) := go_icgt rfl
theorem s_93_50 : Go d 93 50 [some (.ref r), o1, o2, o3, o4] (st) h Q = Go d 93 51 [some (.ref r), o1, o2, o3, o4] (.ref r :: st) h Q := go_lo (E := (.aload_n 0, 0, 0, 0)) rfl rfl rfl
theorem s_93_51 : Go d 93 51 [o0, o1, o2, o3, some (.int x)] (st) h Q = Go d 93 53 [o0, o1, o2, o3, some (.int x)] (.int x :: st) h Q := go_lo (E := (.iload 4, 0, 0, 0)) rfl rfl rfl
theorem s_93_53 : Go d 93 53 [o0, o1, o2, some (.int x), o4] (st) h Q = Go d 93 54 [o0, o1, o2, some (.int x), o4] (.int x :: st) h Q := go_lo (E := (.iload_n 3, 0, 0, 0)) rfl rfl rfl
theorem s_93_54 {a1 : Int32} {a2 : Int32} : Go (d + 1) 93 54 L [.int a2, .int a1, .ref 35] (HP lx xs M) Q = Go d 100 0 [some (.ref 35), some (.int a1), some (.int a2)] [] (HP lx xs M) (fun v h2 => Go (d + 1) 93 57 L (ap v []) h2 Q) := go_cx (E := (.invokevirtual 49, 100, 0, 4)) (k' := 100) (as := [.ref 35, .int a1, .int a2]) rfl rfl rfl rfl rfl rfl rfl rfl
theorem s_93_57 : Go d 93 57 L (.int x :: st) h Q = (if x = 0 then Go d 93 63 L st h Q else Go d 93 60 L st h Q) := go_ifeq rfl
theorem s_93_60 : Go d 93 60 [o0, o1, o2, o3, some (.int x)] (st) h Q = Go d 93 62 [o0, o1, o2, o3, some (.int x)] (.int x :: st) h Q := go_lo (E := (.iload 4, 0, 0, 0)) rfl rfl rfl
theorem s_93_62 : Go d 93 62 L [.int x] h Q = Q (some (.int x)) h := go_ri rfl rfl
theorem s_93_63 : Go d 93 63 [o0, o1, o2, o3, some (.int x)] (st) h Q = Go d 93 66 [o0, o1, o2, o3, some (.int (x + nI 1))] (st) h Q := (ci_i1 ▸ go_lo (E := (.iinc 4 1, 0, 0, 0)) rfl rfl rfl : _ = Go d 93 66 [o0, o1, o2, o3, some (.int (x + nI 1))] (st) h Q)
theorem s_93_66 : Go d 93 66 L (st) h Q = Go d 93 43 L (st) h Q := go_goto rfl
theorem s_93_69 : Go d 93 69 L (st) h Q = Go d 93 71 L (.int (-4) :: st) h Q := go_bi rfl ci_bm4
theorem s_93_71 : Go d 93 71 L [.int x] h Q = Q (some (.int x)) h := go_ri rfl rfl
theorem s_94_0 : Go d 94 0 [some (.ref r), o1, o2, o3, o4, o5, o6] (st) h Q = Go d 94 1 [some (.ref r), o1, o2, o3, o4, o5, o6] (.ref r :: st) h Q := go_lo (E := (.aload_n 0, 0, 0, 0)) rfl rfl rfl
theorem s_94_1 : Go d 94 1 [o0, some (.ref r), o2, o3, o4, o5, o6] (st) h Q = Go d 94 2 [o0, some (.ref r), o2, o3, o4, o5, o6] (.ref r :: st) h Q := go_lo (E := (.aload_n 1, 0, 0, 0)) rfl rfl rfl
theorem s_94_2 : Go d 94 2 L (.ref 2 :: st) (HP lx xs M) Q = Go d 94 5 L (.int (M 2 0) :: st) (HP lx xs M) Q := go_gf rfl rfl (by decide) rfl
theorem s_94_5 : Go d 94 5 L (.int x :: .ref 35 :: st) (HP lx xs M) Q = Go d 94 8 L (st) (HP lx xs (up M 35 6 x)) Q := go_pf rfl rfl (by decide) (Nat.le_of_ble_eq_true rfl) rfl hf_35_6
theorem s_94_8 : Go d 94 8 [some (.ref r), o1, o2, o3, o4, o5, o6] (st) h Q = Go d 94 9 [some (.ref r), o1, o2, o3, o4, o5, o6] (.ref r :: st) h Q := go_lo (E := (.aload_n 0, 0, 0, 0)) rfl rfl rfl
theorem s_94_9 : Go d 94 9 [o0, o1, some (.int x), o3, o4, o5, o6] (st) h Q = Go d 94 10 [o0, o1, some (.int x), o3, o4, o5, o6] (.int x :: st) h Q := go_lo (E := (.iload_n 2, 0, 0, 0)) rfl rfl rfl
theorem s_94_10 {a0 : Int32} {zr0 : Nat} : Go (d + 1) 94 10 L [.int a0, .ref zr0] h Q = Go d 12 0 [some (.int a0)] [] h (fun v h2 => Go (d + 1) 94 13 L (ap v [.ref zr0]) h2 Q) := go_cx (E := (.invokestatic 59, 12, 0, 0)) (k' := 12) (as := [.int a0]) rfl rfl rfl rfl rfl rfl rfl rfl
theorem s_94_13 : Go d 94 13 L (.int x :: .ref 35 :: st) (HP lx xs M) Q = Go d 94 16 L (st) (HP lx xs (up M 35 7 x)) Q := go_pf rfl rfl (by decide) (Nat.le_of_ble_eq_true rfl) rfl hf_35_7
theorem s_94_16 : Go d 94 16 [some (.ref r), o1, o2, o3, o4, o5, o6] (st) h Q = Go d 94 17 [some (.ref r), o1, o2, o3, o4, o5, o6] (.ref r :: st) h Q := go_lo (E := (.aload_n 0, 0, 0, 0)) rfl rfl rfl
theorem s_94_17 : Go d 94 17 L (st) h Q = Go d 94 18 L (.int (nI 1) :: st) h Q := go_ic rfl ci_i1
theorem s_94_18 : Go d 94 18 [some (.ref r), o1, o2, o3, o4, o5, o6] (st) h Q = Go d 94 19 [some (.ref r), o1, o2, o3, o4, o5, o6] (.ref r :: st) h Q := go_lo (E := (.aload_n 0, 0, 0, 0)) rfl rfl rfl
theorem s_94_19 : Go d 94 19 L (.ref 35 :: st) (HP lx xs M) Q = Go d 94 22 L (.int (M 35 6) :: st) (HP lx xs M) Q := go_gf rfl rfl (by decide) rfl
theorem s_94_22 : Go d 94 22 [some (.ref r), o1, o2, o3, o4, o5, o6] (st) h Q = Go d 94 23 [some (.ref r), o1, o2, o3, o4, o5, o6] (.ref r :: st) h Q := go_lo (E := (.aload_n 0, 0, 0, 0)) rfl rfl rfl
theorem s_94_23 : Go d 94 23 L (.ref 35 :: st) (HP lx xs M) Q = Go d 94 26 L (.int (M 35 7) :: st) (HP lx xs M) Q := go_gf rfl rfl (by decide) rfl
theorem s_94_26 : Go d 94 26 L (.int y :: .int x :: st) h Q = Go d 94 27 L (.int (x * y) :: st) h Q := go_op (E := (.imul, 0, 0, 0)) rfl rfl
theorem s_94_27 : Go d 94 27 L (.int y :: .int x :: st) h Q = Go d 94 28 L (.int (x <<< (y &&& 31)) :: st) h Q := go_op (E := (.ishl, 0, 0, 0)) rfl rfl
theorem s_94_28 : Go d 94 28 L (st) h Q = Go d 94 29 L (.int (nI 1) :: st) h Q := go_ic rfl ci_i1
theorem s_94_29 : Go d 94 29 L (.int y :: .int x :: st) h Q = Go d 94 30 L (.int (x - y) :: st) h Q := go_op (E := (.isub, 0, 0, 0)) rfl rfl
theorem s_94_30 : Go d 94 30 L (.int x :: .ref 35 :: st) (HP lx xs M) Q = Go d 94 33 L (st) (HP lx xs (up M 35 8 x)) Q := go_pf rfl rfl (by decide) (Nat.le_of_ble_eq_true rfl) rfl hf_35_8
theorem s_94_33 : Go d 94 33 [some (.ref r), o1, o2, o3, o4, o5, o6] (st) h Q = Go d 94 34 [some (.ref r), o1, o2, o3, o4, o5, o6] (.ref r :: st) h Q := go_lo (E := (.aload_n 0, 0, 0, 0)) rfl rfl rfl
theorem s_94_34 : Go d 94 34 L (.ref 35 :: st) (HP lx xs M) Q = Go d 94 37 L (.ref 37 :: st) (HP lx xs M) Q := go_gf rfl rfl (by decide) rfl
theorem s_94_37 : Go d 94 37 L (st) h Q = Go d 94 38 L (.int (nI 0) :: st) h Q := go_ic rfl ci_i0
theorem s_94_38 {a1 : Int32} {ar0 : Nat} : Go (d + 1) 94 38 L [.int a1, .ref ar0] h Q = Go d 13 0 [some (.ref ar0), some (.int a1), none, none] [] h (fun v h2 => Go (d + 1) 94 41 L (ap v []) h2 Q) := go_cx (E := (.invokestatic 67, 13, 0, 0)) (k' := 13) (as := [.ref ar0, .int a1]) rfl rfl rfl rfl rfl rfl rfl rfl
theorem s_94_41 : Go d 94 41 L (st) h Q = Go d 94 42 L (.int (nI 0) :: st) h Q := go_ic rfl ci_i0
theorem s_94_42 : Go d 94 42 [o0, o1, o2, o3, o4, o5, o6] (.int x :: st) h Q = Go d 94 43 [o0, o1, o2, some (.int x), o4, o5, o6] (st) h Q := go_lo (E := (.istore_n 3, 0, 0, 0)) rfl rfl rfl
theorem s_94_43 : Go d 94 43 L (st) h Q = Go d 94 44 L (.int (nI 0) :: st) h Q := go_ic rfl ci_i0
theorem s_94_44 : Go d 94 44 [o0, o1, o2, o3, o4, o5, o6] (.int x :: st) h Q = Go d 94 46 [o0, o1, o2, o3, some (.int x), o5, o6] (st) h Q := go_lo (E := (.istore 4, 0, 0, 0)) rfl rfl rfl
theorem s_94_46 : Go d 94 46 L (st) h Q = Go d 94 47 L (.int (nI 0) :: st) h Q := go_ic rfl ci_i0
theorem s_94_47 : Go d 94 47 [o0, o1, o2, o3, o4, o5, o6] (.int x :: st) h Q = Go d 94 49 [o0, o1, o2, o3, o4, some (.int x), o6] (st) h Q := go_lo (E := (.istore 5, 0, 0, 0)) rfl rfl rfl
theorem s_94_49 : Go d 94 49 [o0, o1, o2, o3, o4, some (.int x), o6] (st) h Q = Go d 94 51 [o0, o1, o2, o3, o4, some (.int x), o6] (.int x :: st) h Q := go_lo (E := (.iload 5, 0, 0, 0)) rfl rfl rfl
theorem s_94_51 : Go d 94 51 L (st) h Q = Go d 94 52 L (.int (nI 4) :: st) h Q := go_ic rfl ci_i4
theorem s_94_52 : Go d 94 52 L (.int y :: .int x :: st) h Q = (if x < y then Go d 94 55 L st h Q else Go d 94 180 L st h Q) := go_icge rfl
theorem s_94_55 : Go d 94 55 [o0, o1, some (.int x), o3, o4, o5, o6] (st) h Q = Go d 94 56 [o0, o1, some (.int x), o3, o4, o5, o6] (.int x :: st) h Q := go_lo (E := (.iload_n 2, 0, 0, 0)) rfl rfl rfl
theorem s_94_56 : Go d 94 56 [o0, o1, o2, o3, o4, some (.int x), o6] (st) h Q = Go d 94 58 [o0, o1, o2, o3, o4, some (.int x), o6] (.int x :: st) h Q := go_lo (E := (.iload 5, 0, 0, 0)) rfl rfl rfl
theorem s_94_58 {a0 : Int32} {a1 : Int32} : Go (d + 1) 94 58 L [.int a1, .int a0] h Q = Go d 49 0 [some (.int a0), some (.int a1)] [] h (fun v h2 => Go (d + 1) 94 61 L (ap v []) h2 Q) := go_cx (E := (.invokestatic 70, 49, 1, 0)) (k' := 49) (as := [.int a0, .int a1]) rfl rfl rfl rfl rfl rfl rfl rfl
theorem s_94_61 : Go d 94 61 L (.int x :: st) h Q = (if x = 0 then Go d 94 64 L st h Q else Go d 94 67 L st h Q) := go_ifne rfl
theorem s_94_64 : Go d 94 64 L (st) h Q = Go d 94 174 L (st) h Q := go_goto rfl
theorem s_94_67 : Go d 94 67 [some (.ref r), o1, o2, o3, o4, o5, o6] (st) h Q = Go d 94 68 [some (.ref r), o1, o2, o3, o4, o5, o6] (.ref r :: st) h Q := go_lo (E := (.aload_n 0, 0, 0, 0)) rfl rfl rfl
theorem s_94_68 : Go d 94 68 L (.ref 35 :: st) (HP lx xs M) Q = Go d 94 71 L (.ref 36 :: st) (HP lx xs M) Q := go_gf rfl rfl (by decide) rfl
theorem s_94_71 : Go d 94 71 [o0, o1, o2, o3, some (.int x), o5, o6] (st) h Q = Go d 94 73 [o0, o1, o2, o3, some (.int x), o5, o6] (.int x :: st) h Q := go_lo (E := (.iload 4, 0, 0, 0)) rfl rfl rfl
theorem s_94_73 : Go d 94 73 [o0, some (.ref r), o2, o3, o4, o5, o6] (st) h Q = Go d 94 74 [o0, some (.ref r), o2, o3, o4, o5, o6] (.ref r :: st) h Q := go_lo (E := (.aload_n 1, 0, 0, 0)) rfl rfl rfl
theorem s_94_74 : Go d 94 74 L (.ref 2 :: st) (HP lx xs M) Q = Go d 94 77 L (.ref 7 :: st) (HP lx xs M) Q := go_gf rfl rfl (by decide) rfl
theorem s_94_77 : Go d 94 77 [o0, o1, o2, o3, o4, some (.int x), o6] (st) h Q = Go d 94 79 [o0, o1, o2, o3, o4, some (.int x), o6] (.int x :: st) h Q := go_lo (E := (.iload 5, 0, 0, 0)) rfl rfl rfl
theorem s_94_79 : Go d 94 79 L (.int x :: .ref 7 :: st) (HP lx xs M) Q = (ex_in x 4 = true ∧ Go d 94 80 L (.int (M 7 x.toNatClampNeg) :: st) (HP lx xs M) Q) := go_al rfl rfl
theorem s_94_80 : Go d 94 80 [o0, o1, some (.int x), o3, o4, o5, o6] (st) h Q = Go d 94 81 [o0, o1, some (.int x), o3, o4, o5, o6] (.int x :: st) h Q := go_lo (E := (.iload_n 2, 0, 0, 0)) rfl rfl rfl
theorem s_94_81 {a0 : Int32} {a1 : Int32} {z1 : Int32} {zr0 : Nat} : Go (d + 1) 94 81 L [.int a1, .int a0, .int z1, .ref zr0] h Q = Go d 95 0 [some (.int a0), some (.int a1), none, none, none] [] h (fun v h2 => Go (d + 1) 94 84 L (ap v [.int z1, .ref zr0]) h2 Q) := go_cx (E := (.invokestatic 74, 95, 0, 0)) (k' := 95) (as := [.int a0, .int a1]) rfl rfl rfl rfl rfl rfl rfl rfl
theorem s_94_84 : Go d 94 84 L (.int y :: .int x :: .ref 36 :: st) (HP lx xs M) Q = (ex_in x 4 = true ∧ Go d 94 85 L (st) (HP lx xs (up M 36 x.toNatClampNeg y)) Q) := go_as rfl rfl (by decide) hs_36
theorem s_94_85 : Go d 94 85 L (st) h Q = Go d 94 86 L (.int (nI 0) :: st) h Q := go_ic rfl ci_i0
theorem s_94_86 : Go d 94 86 [o0, o1, o2, o3, o4, o5, o6] (.int x :: st) h Q = Go d 94 88 [o0, o1, o2, o3, o4, o5, some (.int x)] (st) h Q := go_lo (E := (.istore 6, 0, 0, 0)) rfl rfl rfl
theorem s_94_88 : Go d 94 88 [o0, o1, o2, o3, o4, o5, some (.int x)] (st) h Q = Go d 94 90 [o0, o1, o2, o3, o4, o5, some (.int x)] (.int x :: st) h Q := go_lo (E := (.iload 6, 0, 0, 0)) rfl rfl rfl
theorem s_94_90 : Go d 94 90 [some (.ref r), o1, o2, o3, o4, o5, o6] (st) h Q = Go d 94 91 [some (.ref r), o1, o2, o3, o4, o5, o6] (.ref r :: st) h Q := go_lo (E := (.aload_n 0, 0, 0, 0)) rfl rfl rfl
theorem s_94_91 : Go d 94 91 L (.ref 35 :: st) (HP lx xs M) Q = Go d 94 94 L (.int (M 35 6) :: st) (HP lx xs M) Q := go_gf rfl rfl (by decide) rfl
theorem s_94_94 : Go d 94 94 L (.int y :: .int x :: st) h Q = (if x < y then Go d 94 97 L st h Q else Go d 94 171 L st h Q) := go_icge rfl
theorem s_94_97 : Go d 94 97 [o0, some (.ref r), o2, o3, o4, o5, o6] (st) h Q = Go d 94 98 [o0, some (.ref r), o2, o3, o4, o5, o6] (.ref r :: st) h Q := go_lo (E := (.aload_n 1, 0, 0, 0)) rfl rfl rfl
theorem s_94_98 : Go d 94 98 L (.ref 2 :: st) (HP lx xs M) Q = Go d 94 101 L (.ref 5 :: st) (HP lx xs M) Q := go_gf rfl rfl (by decide) rfl
theorem s_94_101 : Go d 94 101 [o0, o1, o2, o3, o4, o5, some (.int x)] (st) h Q = Go d 94 103 [o0, o1, o2, o3, o4, o5, some (.int x)] (.int x :: st) h Q := go_lo (E := (.iload 6, 0, 0, 0)) rfl rfl rfl
theorem s_94_103 : Go d 94 103 L (.int x :: .ref 5 :: st) (HP lx xs M) Q = (ex_in x 6 = true ∧ Go d 94 104 L (.int (M 5 x.toNatClampNeg) :: st) (HP lx xs M) Q) := go_al rfl rfl
theorem s_94_104 : Go d 94 104 [o0, o1, o2, o3, o4, some (.int x), o6] (st) h Q = Go d 94 106 [o0, o1, o2, o3, o4, some (.int x), o6] (.int x :: st) h Q := go_lo (E := (.iload 5, 0, 0, 0)) rfl rfl rfl
theorem s_94_106 {a0 : Int32} {a1 : Int32} : Go (d + 1) 94 106 L [.int a1, .int a0] h Q = Go d 49 0 [some (.int a0), some (.int a1)] [] h (fun v h2 => Go (d + 1) 94 109 L (ap v []) h2 Q) := go_cx (E := (.invokestatic 70, 49, 1, 0)) (k' := 49) (as := [.int a0, .int a1]) rfl rfl rfl rfl rfl rfl rfl rfl
theorem s_94_109 : Go d 94 109 L (.int x :: st) h Q = (if x = 0 then Go d 94 127 L st h Q else Go d 94 112 L st h Q) := go_ifeq rfl
theorem s_94_112 : Go d 94 112 [o0, o1, o2, some (.int x), o4, o5, o6] (st) h Q = Go d 94 113 [o0, o1, o2, some (.int x), o4, o5, o6] (.int x :: st) h Q := go_lo (E := (.iload_n 3, 0, 0, 0)) rfl rfl rfl
theorem s_94_113 : Go d 94 113 L (st) h Q = Go d 94 114 L (.int (nI 1) :: st) h Q := go_ic rfl ci_i1
theorem s_94_114 : Go d 94 114 [o0, o1, o2, o3, o4, o5, some (.int x)] (st) h Q = Go d 94 116 [o0, o1, o2, o3, o4, o5, some (.int x)] (.int x :: st) h Q := go_lo (E := (.iload 6, 0, 0, 0)) rfl rfl rfl
theorem s_94_116 : Go d 94 116 [some (.ref r), o1, o2, o3, o4, o5, o6] (st) h Q = Go d 94 117 [some (.ref r), o1, o2, o3, o4, o5, o6] (.ref r :: st) h Q := go_lo (E := (.aload_n 0, 0, 0, 0)) rfl rfl rfl
theorem s_94_117 : Go d 94 117 L (.ref 35 :: st) (HP lx xs M) Q = Go d 94 120 L (.int (M 35 7) :: st) (HP lx xs M) Q := go_gf rfl rfl (by decide) rfl
theorem s_94_120 : Go d 94 120 L (.int y :: .int x :: st) h Q = Go d 94 121 L (.int (x * y) :: st) h Q := go_op (E := (.imul, 0, 0, 0)) rfl rfl
theorem s_94_121 : Go d 94 121 [o0, o1, o2, o3, some (.int x), o5, o6] (st) h Q = Go d 94 123 [o0, o1, o2, o3, some (.int x), o5, o6] (.int x :: st) h Q := go_lo (E := (.iload 4, 0, 0, 0)) rfl rfl rfl
theorem s_94_123 : Go d 94 123 L (.int y :: .int x :: st) h Q = Go d 94 124 L (.int (x + y) :: st) h Q := go_op (E := (.iadd, 0, 0, 0)) rfl rfl
theorem s_94_124 : Go d 94 124 L (.int y :: .int x :: st) h Q = Go d 94 125 L (.int (x <<< (y &&& 31)) :: st) h Q := go_op (E := (.ishl, 0, 0, 0)) rfl rfl
theorem s_94_125 : Go d 94 125 L (.int y :: .int x :: st) h Q = Go d 94 126 L (.int (x ||| y) :: st) h Q := go_op (E := (.ior, 0, 0, 0)) rfl rfl
theorem s_94_126 : Go d 94 126 [o0, o1, o2, o3, o4, o5, o6] (.int x :: st) h Q = Go d 94 127 [o0, o1, o2, some (.int x), o4, o5, o6] (st) h Q := go_lo (E := (.istore_n 3, 0, 0, 0)) rfl rfl rfl
theorem s_94_127 : Go d 94 127 [o0, some (.ref r), o2, o3, o4, o5, o6] (st) h Q = Go d 94 128 [o0, some (.ref r), o2, o3, o4, o5, o6] (.ref r :: st) h Q := go_lo (E := (.aload_n 1, 0, 0, 0)) rfl rfl rfl
theorem s_94_128 : Go d 94 128 L (.ref 2 :: st) (HP lx xs M) Q = Go d 94 131 L (.ref 7 :: st) (HP lx xs M) Q := go_gf rfl rfl (by decide) rfl
theorem s_94_131 : Go d 94 131 [o0, o1, o2, o3, o4, some (.int x), o6] (st) h Q = Go d 94 133 [o0, o1, o2, o3, o4, some (.int x), o6] (.int x :: st) h Q := go_lo (E := (.iload 5, 0, 0, 0)) rfl rfl rfl
theorem s_94_133 : Go d 94 133 L (.int x :: .ref 7 :: st) (HP lx xs M) Q = (ex_in x 4 = true ∧ Go d 94 134 L (.int (M 7 x.toNatClampNeg) :: st) (HP lx xs M) Q) := go_al rfl rfl
theorem s_94_134 : Go d 94 134 [o0, o1, some (.int x), o3, o4, o5, o6] (st) h Q = Go d 94 135 [o0, o1, some (.int x), o3, o4, o5, o6] (.int x :: st) h Q := go_lo (E := (.iload_n 2, 0, 0, 0)) rfl rfl rfl
theorem s_94_135 : Go d 94 135 L (st) h Q = Go d 94 136 L (.int (-1) :: st) h Q := go_ic rfl ci_im1
theorem s_94_136 : Go d 94 136 L (.int y :: .int x :: st) h Q = Go d 94 137 L (.int (x ^^^ y) :: st) h Q := go_op (E := (.ixor, 0, 0, 0)) rfl rfl
theorem s_94_137 : Go d 94 137 L (.int y :: .int x :: st) h Q = Go d 94 138 L (.int (x &&& y) :: st) h Q := go_op (E := (.iand, 0, 0, 0)) rfl rfl
theorem s_94_138 : Go d 94 138 [o0, some (.ref r), o2, o3, o4, o5, o6] (st) h Q = Go d 94 139 [o0, some (.ref r), o2, o3, o4, o5, o6] (.ref r :: st) h Q := go_lo (E := (.aload_n 1, 0, 0, 0)) rfl rfl rfl
theorem s_94_139 : Go d 94 139 L (.ref 2 :: st) (HP lx xs M) Q = Go d 94 142 L (.ref 5 :: st) (HP lx xs M) Q := go_gf rfl rfl (by decide) rfl
theorem s_94_142 : Go d 94 142 [o0, o1, o2, o3, o4, o5, some (.int x)] (st) h Q = Go d 94 144 [o0, o1, o2, o3, o4, o5, some (.int x)] (.int x :: st) h Q := go_lo (E := (.iload 6, 0, 0, 0)) rfl rfl rfl
theorem s_94_144 : Go d 94 144 L (.int x :: .ref 5 :: st) (HP lx xs M) Q = (ex_in x 6 = true ∧ Go d 94 145 L (.int (M 5 x.toNatClampNeg) :: st) (HP lx xs M) Q) := go_al rfl rfl
theorem s_94_145 : Go d 94 145 L (st) h Q = Go d 94 146 L (.int (-1) :: st) h Q := go_ic rfl ci_im1
theorem s_94_146 : Go d 94 146 L (.int y :: .int x :: st) h Q = Go d 94 147 L (.int (x ^^^ y) :: st) h Q := go_op (E := (.ixor, 0, 0, 0)) rfl rfl
theorem s_94_147 : Go d 94 147 L (.int y :: .int x :: st) h Q = Go d 94 148 L (.int (x &&& y) :: st) h Q := go_op (E := (.iand, 0, 0, 0)) rfl rfl
theorem s_94_148 : Go d 94 148 L (.int x :: st) h Q = (if x = 0 then Go d 94 151 L st h Q else Go d 94 165 L st h Q) := go_ifne rfl
theorem s_94_151 : Go d 94 151 [some (.ref r), o1, o2, o3, o4, o5, o6] (st) h Q = Go d 94 152 [some (.ref r), o1, o2, o3, o4, o5, o6] (.ref r :: st) h Q := go_lo (E := (.aload_n 0, 0, 0, 0)) rfl rfl rfl
theorem s_94_152 : Go d 94 152 L (.ref 35 :: st) (HP lx xs M) Q = Go d 94 155 L (.ref 37 :: st) (HP lx xs M) Q := go_gf rfl rfl (by decide) rfl
theorem s_94_155 : Go d 94 155 [o0, o1, o2, o3, o4, o5, some (.int x)] (st) h Q = Go d 94 157 [o0, o1, o2, o3, o4, o5, some (.int x)] (.int x :: st) h Q := go_lo (E := (.iload 6, 0, 0, 0)) rfl rfl rfl
theorem s_94_157 : Go d 94 157 L (.int x :: .ref r2 :: st) h Q = Go d 94 158 L (.int x :: .ref r2 :: .int x :: .ref r2 :: st) h Q := go_op (E := (.dup2, 0, 0, 0)) rfl rfl
set_option maxRecDepth 30000 in
theorem s_94_158 : Go d 94 158 L (.int x :: .ref 37 :: st) (HP lx xs M) Q = (ex_in x 6 = true ∧ Go d 94 159 L (.int (M 37 x.toNatClampNeg) :: st) (HP lx xs M) Q) := go_al rfl rfl
set_option maxRecDepth 30000 in
theorem s_94_159 : Go d 94 159 L (st) h Q = Go d 94 160 L (.int (nI 1) :: st) h Q := go_ic rfl ci_i1
set_option maxRecDepth 30000 in
theorem s_94_160 : Go d 94 160 [o0, o1, o2, o3, some (.int x), o5, o6] (st) h Q = Go d 94 162 [o0, o1, o2, o3, some (.int x), o5, o6] (.int x :: st) h Q := go_lo (E := (.iload 4, 0, 0, 0)) rfl rfl rfl
set_option maxRecDepth 30000 in
theorem s_94_162 : Go d 94 162 L (.int y :: .int x :: st) h Q = Go d 94 163 L (.int (x <<< (y &&& 31)) :: st) h Q := go_op (E := (.ishl, 0, 0, 0)) rfl rfl
set_option maxRecDepth 30000 in
theorem s_94_163 : Go d 94 163 L (.int y :: .int x :: st) h Q = Go d 94 164 L (.int (x ||| y) :: st) h Q := go_op (E := (.ior, 0, 0, 0)) rfl rfl
set_option maxRecDepth 30000 in
theorem s_94_164 : Go d 94 164 L (.int y :: .int x :: .ref 37 :: st) (HP lx xs M) Q = (ex_in x 6 = true ∧ Go d 94 165 L (st) (HP lx xs (up M 37 x.toNatClampNeg y)) Q) := go_as rfl rfl (by decide) hs_37
set_option maxRecDepth 30000 in
theorem s_94_165 : Go d 94 165 [o0, o1, o2, o3, o4, o5, some (.int x)] (st) h Q = Go d 94 168 [o0, o1, o2, o3, o4, o5, some (.int (x + nI 1))] (st) h Q := (ci_i1 ▸ go_lo (E := (.iinc 6 1, 0, 0, 0)) rfl rfl rfl : _ = Go d 94 168 [o0, o1, o2, o3, o4, o5, some (.int (x + nI 1))] (st) h Q)
set_option maxRecDepth 30000 in
theorem s_94_168 : Go d 94 168 L (st) h Q = Go d 94 88 L (st) h Q := go_goto rfl
set_option maxRecDepth 30000 in
theorem s_94_171 : Go d 94 171 [o0, o1, o2, o3, some (.int x), o5, o6] (st) h Q = Go d 94 174 [o0, o1, o2, o3, some (.int (x + nI 1)), o5, o6] (st) h Q := (ci_i1 ▸ go_lo (E := (.iinc 4 1, 0, 0, 0)) rfl rfl rfl : _ = Go d 94 174 [o0, o1, o2, o3, some (.int (x + nI 1)), o5, o6] (st) h Q)
set_option maxRecDepth 30000 in
theorem s_94_174 : Go d 94 174 [o0, o1, o2, o3, o4, some (.int x), o6] (st) h Q = Go d 94 177 [o0, o1, o2, o3, o4, some (.int (x + nI 1)), o6] (st) h Q := (ci_i1 ▸ go_lo (E := (.iinc 5 1, 0, 0, 0)) rfl rfl rfl : _ = Go d 94 177 [o0, o1, o2, o3, o4, some (.int (x + nI 1)), o6] (st) h Q)
set_option maxRecDepth 30000 in
theorem s_94_177 : Go d 94 177 L (st) h Q = Go d 94 49 L (st) h Q := go_goto rfl
set_option maxRecDepth 30000 in
theorem s_94_180 : Go d 94 180 [o0, some (.ref r), o2, o3, o4, o5, o6] (st) h Q = Go d 94 181 [o0, some (.ref r), o2, o3, o4, o5, o6] (.ref r :: st) h Q := go_lo (E := (.aload_n 1, 0, 0, 0)) rfl rfl rfl
set_option maxRecDepth 30000 in
theorem s_94_181 : Go d 94 181 L (.ref 2 :: st) (HP lx xs M) Q = Go d 94 184 L (.ref 6 :: st) (HP lx xs M) Q := go_gf rfl rfl (by decide) rfl
set_option maxRecDepth 30000 in
theorem s_94_184 : Go d 94 184 L (st) h Q = Go d 94 185 L (.int (nI 0) :: st) h Q := go_ic rfl ci_i0
set_option maxRecDepth 30000 in
theorem s_94_185 : Go d 94 185 [some (.ref r), o1, o2, o3, o4, o5, o6] (st) h Q = Go d 94 186 [some (.ref r), o1, o2, o3, o4, o5, o6] (.ref r :: st) h Q := go_lo (E := (.aload_n 0, 0, 0, 0)) rfl rfl rfl
set_option maxRecDepth 30000 in
theorem s_94_186 : Go d 94 186 L (.ref 35 :: st) (HP lx xs M) Q = Go d 94 189 L (.ref 38 :: st) (HP lx xs M) Q := go_gf rfl rfl (by decide) rfl
set_option maxRecDepth 30000 in
theorem s_94_189 : Go d 94 189 L (st) h Q = Go d 94 190 L (.int (nI 0) :: st) h Q := go_ic rfl ci_i0
set_option maxRecDepth 30000 in
theorem s_94_190 : Go d 94 190 L (st) h Q = Go d 94 192 L (.int (nI 6) :: st) h Q := go_bi rfl ci_b6
set_option maxRecDepth 30000 in
theorem s_94_195 : Go d 94 195 [o0, o1, o2, some (.int x), o4, o5, o6] (st) h Q = Go d 94 196 [o0, o1, o2, some (.int x), o4, o5, o6] (.int x :: st) h Q := go_lo (E := (.iload_n 3, 0, 0, 0)) rfl rfl rfl
set_option maxRecDepth 30000 in
theorem s_94_196 : Go d 94 196 L [.int x] h Q = Q (some (.int x)) h := go_ri rfl rfl
theorem s_95_0 : Go d 95 0 L (st) h Q = Go d 95 1 L (.int (nI 0) :: st) h Q := go_ic rfl ci_i0
theorem s_95_1 : Go d 95 1 [o0, o1, o2, o3, o4] (.int x :: st) h Q = Go d 95 2 [o0, o1, some (.int x), o3, o4] (st) h Q := go_lo (E := (.istore_n 2, 0, 0, 0)) rfl rfl rfl
theorem s_95_2 : Go d 95 2 L (st) h Q = Go d 95 3 L (.int (nI 0) :: st) h Q := go_ic rfl ci_i0
theorem s_95_3 : Go d 95 3 [o0, o1, o2, o3, o4] (.int x :: st) h Q = Go d 95 4 [o0, o1, o2, some (.int x), o4] (st) h Q := go_lo (E := (.istore_n 3, 0, 0, 0)) rfl rfl rfl
theorem s_95_4 : Go d 95 4 L (st) h Q = Go d 95 5 L (.int (nI 0) :: st) h Q := go_ic rfl ci_i0
theorem s_95_5 : Go d 95 5 [o0, o1, o2, o3, o4] (.int x :: st) h Q = Go d 95 7 [o0, o1, o2, o3, some (.int x)] (st) h Q := go_lo (E := (.istore 4, 0, 0, 0)) rfl rfl rfl
theorem s_95_7 : Go d 95 7 [o0, o1, o2, o3, some (.int x)] (st) h Q = Go d 95 9 [o0, o1, o2, o3, some (.int x)] (.int x :: st) h Q := go_lo (E := (.iload 4, 0, 0, 0)) rfl rfl rfl
theorem s_95_9 : Go d 95 9 L (st) h Q = Go d 95 10 L (.int (nI 4) :: st) h Q := go_ic rfl ci_i4
theorem s_95_10 : Go d 95 10 L (.int y :: .int x :: st) h Q = (if x < y then Go d 95 13 L st h Q else Go d 95 49 L st h Q) := go_icge rfl
theorem s_95_13 : Go d 95 13 [o0, some (.int x), o2, o3, o4] (st) h Q = Go d 95 14 [o0, some (.int x), o2, o3, o4] (.int x :: st) h Q := go_lo (E := (.iload_n 1, 0, 0, 0)) rfl rfl rfl
theorem s_95_14 : Go d 95 14 [o0, o1, o2, o3, some (.int x)] (st) h Q = Go d 95 16 [o0, o1, o2, o3, some (.int x)] (.int x :: st) h Q := go_lo (E := (.iload 4, 0, 0, 0)) rfl rfl rfl
theorem s_95_16 {a0 : Int32} {a1 : Int32} : Go (d + 1) 95 16 L [.int a1, .int a0] h Q = Go d 49 0 [some (.int a0), some (.int a1)] [] h (fun v h2 => Go (d + 1) 95 19 L (ap v []) h2 Q) := go_cx (E := (.invokestatic 70, 49, 1, 0)) (k' := 49) (as := [.int a0, .int a1]) rfl rfl rfl rfl rfl rfl rfl rfl
theorem s_95_19 : Go d 95 19 L (.int x :: st) h Q = (if x = 0 then Go d 95 22 L st h Q else Go d 95 25 L st h Q) := go_ifne rfl
theorem s_95_22 : Go d 95 22 L (st) h Q = Go d 95 43 L (st) h Q := go_goto rfl
theorem s_95_25 : Go d 95 25 [some (.int x), o1, o2, o3, o4] (st) h Q = Go d 95 26 [some (.int x), o1, o2, o3, o4] (.int x :: st) h Q := go_lo (E := (.iload_n 0, 0, 0, 0)) rfl rfl rfl
theorem s_95_26 : Go d 95 26 [o0, o1, o2, o3, some (.int x)] (st) h Q = Go d 95 28 [o0, o1, o2, o3, some (.int x)] (.int x :: st) h Q := go_lo (E := (.iload 4, 0, 0, 0)) rfl rfl rfl
theorem s_95_28 {a0 : Int32} {a1 : Int32} : Go (d + 1) 95 28 L [.int a1, .int a0] h Q = Go d 49 0 [some (.int a0), some (.int a1)] [] h (fun v h2 => Go (d + 1) 95 31 L (ap v []) h2 Q) := go_cx (E := (.invokestatic 70, 49, 1, 0)) (k' := 49) (as := [.int a0, .int a1]) rfl rfl rfl rfl rfl rfl rfl rfl
theorem s_95_31 : Go d 95 31 L (.int x :: st) h Q = (if x = 0 then Go d 95 40 L st h Q else Go d 95 34 L st h Q) := go_ifeq rfl
theorem s_95_34 : Go d 95 34 [o0, o1, some (.int x), o3, o4] (st) h Q = Go d 95 35 [o0, o1, some (.int x), o3, o4] (.int x :: st) h Q := go_lo (E := (.iload_n 2, 0, 0, 0)) rfl rfl rfl
theorem s_95_35 : Go d 95 35 L (st) h Q = Go d 95 36 L (.int (nI 1) :: st) h Q := go_ic rfl ci_i1
theorem s_95_36 : Go d 95 36 [o0, o1, o2, some (.int x), o4] (st) h Q = Go d 95 37 [o0, o1, o2, some (.int x), o4] (.int x :: st) h Q := go_lo (E := (.iload_n 3, 0, 0, 0)) rfl rfl rfl
theorem s_95_37 : Go d 95 37 L (.int y :: .int x :: st) h Q = Go d 95 38 L (.int (x <<< (y &&& 31)) :: st) h Q := go_op (E := (.ishl, 0, 0, 0)) rfl rfl
theorem s_95_38 : Go d 95 38 L (.int y :: .int x :: st) h Q = Go d 95 39 L (.int (x ||| y) :: st) h Q := go_op (E := (.ior, 0, 0, 0)) rfl rfl
theorem s_95_39 : Go d 95 39 [o0, o1, o2, o3, o4] (.int x :: st) h Q = Go d 95 40 [o0, o1, some (.int x), o3, o4] (st) h Q := go_lo (E := (.istore_n 2, 0, 0, 0)) rfl rfl rfl
theorem s_95_40 : Go d 95 40 [o0, o1, o2, some (.int x), o4] (st) h Q = Go d 95 43 [o0, o1, o2, some (.int (x + nI 1)), o4] (st) h Q := (ci_i1 ▸ go_lo (E := (.iinc 3 1, 0, 0, 0)) rfl rfl rfl : _ = Go d 95 43 [o0, o1, o2, some (.int (x + nI 1)), o4] (st) h Q)
theorem s_95_43 : Go d 95 43 [o0, o1, o2, o3, some (.int x)] (st) h Q = Go d 95 46 [o0, o1, o2, o3, some (.int (x + nI 1))] (st) h Q := (ci_i1 ▸ go_lo (E := (.iinc 4 1, 0, 0, 0)) rfl rfl rfl : _ = Go d 95 46 [o0, o1, o2, o3, some (.int (x + nI 1))] (st) h Q)
theorem s_95_46 : Go d 95 46 L (st) h Q = Go d 95 7 L (st) h Q := go_goto rfl
theorem s_95_49 : Go d 95 49 [o0, o1, some (.int x), o3, o4] (st) h Q = Go d 95 50 [o0, o1, some (.int x), o3, o4] (.int x :: st) h Q := go_lo (E := (.iload_n 2, 0, 0, 0)) rfl rfl rfl
theorem s_95_50 : Go d 95 50 L [.int x] h Q = Q (some (.int x)) h := go_ri rfl rfl
theorem s_96_0 : Go d 96 0 [o0, o1, some (.int x)] (st) h Q = Go d 96 1 [o0, o1, some (.int x)] (.int x :: st) h Q := go_lo (E := (.iload_n 2, 0, 0, 0)) rfl rfl rfl
theorem s_96_1 : Go d 96 1 [o0, some (.int x), o2] (st) h Q = Go d 96 2 [o0, some (.int x), o2] (.int x :: st) h Q := go_lo (E := (.iload_n 1, 0, 0, 0)) rfl rfl rfl
theorem s_96_2 : Go d 96 2 [some (.ref r), o1, o2] (st) h Q = Go d 96 3 [some (.ref r), o1, o2] (.ref r :: st) h Q := go_lo (E := (.aload_n 0, 0, 0, 0)) rfl rfl rfl
theorem s_96_3 : Go d 96 3 L (.ref 35 :: st) (HP lx xs M) Q = Go d 96 6 L (.int (M 35 7) :: st) (HP lx xs M) Q := go_gf rfl rfl (by decide) rfl
theorem s_96_6 : Go d 96 6 L (.int y :: .int x :: st) h Q = Go d 96 7 L (.int (x * y) :: st) h Q := go_op (E := (.imul, 0, 0, 0)) rfl rfl
theorem s_96_7 : Go d 96 7 L (.int y :: .int x :: st) h Q = Go d 96 8 L (.int (x >>> (y &&& 31)) :: st) h Q := go_op (E := (.ishr, 0, 0, 0)) rfl rfl
theorem s_96_8 : Go d 96 8 L (st) h Q = Go d 96 9 L (.int (nI 1) :: st) h Q := go_ic rfl ci_i1
theorem s_96_9 : Go d 96 9 [some (.ref r), o1, o2] (st) h Q = Go d 96 10 [some (.ref r), o1, o2] (.ref r :: st) h Q := go_lo (E := (.aload_n 0, 0, 0, 0)) rfl rfl rfl
theorem s_96_10 : Go d 96 10 L (.ref 35 :: st) (HP lx xs M) Q = Go d 96 13 L (.int (M 35 7) :: st) (HP lx xs M) Q := go_gf rfl rfl (by decide) rfl
theorem s_96_13 : Go d 96 13 L (.int y :: .int x :: st) h Q = Go d 96 14 L (.int (x <<< (y &&& 31)) :: st) h Q := go_op (E := (.ishl, 0, 0, 0)) rfl rfl
theorem s_96_14 : Go d 96 14 L (st) h Q = Go d 96 15 L (.int (nI 1) :: st) h Q := go_ic rfl ci_i1
theorem s_96_15 : Go d 96 15 L (.int y :: .int x :: st) h Q = Go d 96 16 L (.int (x - y) :: st) h Q := go_op (E := (.isub, 0, 0, 0)) rfl rfl
theorem s_96_16 : Go d 96 16 L (.int y :: .int x :: st) h Q = Go d 96 17 L (.int (x &&& y) :: st) h Q := go_op (E := (.iand, 0, 0, 0)) rfl rfl
theorem s_96_17 : Go d 96 17 L [.int x] h Q = Q (some (.int x)) h := go_ri rfl rfl
theorem s_97_0 : Go d 97 0 [some (.ref r), o1, o2, o3, o4, o5] (st) h Q = Go d 97 1 [some (.ref r), o1, o2, o3, o4, o5] (.ref r :: st) h Q := go_lo (E := (.aload_n 0, 0, 0, 0)) rfl rfl rfl
theorem s_97_1 : Go d 97 1 [o0, some (.int x), o2, o3, o4, o5] (st) h Q = Go d 97 2 [o0, some (.int x), o2, o3, o4, o5] (.int x :: st) h Q := go_lo (E := (.iload_n 1, 0, 0, 0)) rfl rfl rfl
theorem s_97_2 : Go d 97 2 [o0, o1, some (.int x), o3, o4, o5] (st) h Q = Go d 97 3 [o0, o1, some (.int x), o3, o4, o5] (.int x :: st) h Q := go_lo (E := (.iload_n 2, 0, 0, 0)) rfl rfl rfl
theorem s_97_3 {a1 : Int32} {a2 : Int32} : Go (d + 1) 97 3 L [.int a2, .int a1, .ref 35] (HP lx xs M) Q = Go d 96 0 [some (.ref 35), some (.int a1), some (.int a2)] [] (HP lx xs M) (fun v h2 => Go (d + 1) 97 6 L (ap v []) h2 Q) := go_cx (E := (.invokevirtual 88, 96, 0, 4)) (k' := 96) (as := [.ref 35, .int a1, .int a2]) rfl rfl rfl rfl rfl rfl rfl rfl
theorem s_97_6 : Go d 97 6 [o0, o1, o2, o3, o4, o5] (.int x :: st) h Q = Go d 97 7 [o0, o1, o2, some (.int x), o4, o5] (st) h Q := go_lo (E := (.istore_n 3, 0, 0, 0)) rfl rfl rfl
theorem s_97_7 : Go d 97 7 L (st) h Q = Go d 97 8 L (.int (nI 0) :: st) h Q := go_ic rfl ci_i0
theorem s_97_8 : Go d 97 8 [o0, o1, o2, o3, o4, o5] (.int x :: st) h Q = Go d 97 10 [o0, o1, o2, o3, some (.int x), o5] (st) h Q := go_lo (E := (.istore 4, 0, 0, 0)) rfl rfl rfl
theorem s_97_10 : Go d 97 10 L (st) h Q = Go d 97 11 L (.int (nI 0) :: st) h Q := go_ic rfl ci_i0
theorem s_97_11 : Go d 97 11 [o0, o1, o2, o3, o4, o5] (.int x :: st) h Q = Go d 97 13 [o0, o1, o2, o3, o4, some (.int x)] (st) h Q := go_lo (E := (.istore 5, 0, 0, 0)) rfl rfl rfl
theorem s_97_13 : Go d 97 13 [o0, o1, o2, o3, o4, some (.int x)] (st) h Q = Go d 97 15 [o0, o1, o2, o3, o4, some (.int x)] (.int x :: st) h Q := go_lo (E := (.iload 5, 0, 0, 0)) rfl rfl rfl
theorem s_97_15 : Go d 97 15 [some (.ref r), o1, o2, o3, o4, o5] (st) h Q = Go d 97 16 [some (.ref r), o1, o2, o3, o4, o5] (.ref r :: st) h Q := go_lo (E := (.aload_n 0, 0, 0, 0)) rfl rfl rfl
theorem s_97_16 : Go d 97 16 L (.ref 35 :: st) (HP lx xs M) Q = Go d 97 19 L (.int (M 35 7) :: st) (HP lx xs M) Q := go_gf rfl rfl (by decide) rfl
theorem s_97_19 : Go d 97 19 L (.int y :: .int x :: st) h Q = (if x < y then Go d 97 22 L st h Q else Go d 97 60 L st h Q) := go_icge rfl
theorem s_97_22 : Go d 97 22 [o0, o1, o2, some (.int x), o4, o5] (st) h Q = Go d 97 23 [o0, o1, o2, some (.int x), o4, o5] (.int x :: st) h Q := go_lo (E := (.iload_n 3, 0, 0, 0)) rfl rfl rfl
theorem s_97_23 : Go d 97 23 [o0, o1, o2, o3, o4, some (.int x)] (st) h Q = Go d 97 25 [o0, o1, o2, o3, o4, some (.int x)] (.int x :: st) h Q := go_lo (E := (.iload 5, 0, 0, 0)) rfl rfl rfl
theorem s_97_25 {a0 : Int32} {a1 : Int32} : Go (d + 1) 97 25 L [.int a1, .int a0] h Q = Go d 49 0 [some (.int a0), some (.int a1)] [] h (fun v h2 => Go (d + 1) 97 28 L (ap v []) h2 Q) := go_cx (E := (.invokestatic 70, 49, 1, 0)) (k' := 49) (as := [.int a0, .int a1]) rfl rfl rfl rfl rfl rfl rfl rfl
theorem s_97_28 : Go d 97 28 L (.int x :: st) h Q = (if x = 0 then Go d 97 31 L st h Q else Go d 97 54 L st h Q) := go_ifne rfl
theorem s_97_31 : Go d 97 31 [some (.ref r), o1, o2, o3, o4, o5] (st) h Q = Go d 97 32 [some (.ref r), o1, o2, o3, o4, o5] (.ref r :: st) h Q := go_lo (E := (.aload_n 0, 0, 0, 0)) rfl rfl rfl
theorem s_97_32 : Go d 97 32 L (.ref 35 :: st) (HP lx xs M) Q = Go d 97 35 L (.ref 36 :: st) (HP lx xs M) Q := go_gf rfl rfl (by decide) rfl
theorem s_97_35 : Go d 97 35 [o0, o1, o2, o3, o4, some (.int x)] (st) h Q = Go d 97 37 [o0, o1, o2, o3, o4, some (.int x)] (.int x :: st) h Q := go_lo (E := (.iload 5, 0, 0, 0)) rfl rfl rfl
theorem s_97_37 : Go d 97 37 L (.int x :: .ref 36 :: st) (HP lx xs M) Q = (ex_in x 4 = true ∧ Go d 97 38 L (.int (M 36 x.toNatClampNeg) :: st) (HP lx xs M) Q) := go_al rfl rfl
theorem s_97_38 : Go d 97 38 [o0, o1, o2, some (.int x), o4, o5] (st) h Q = Go d 97 39 [o0, o1, o2, some (.int x), o4, o5] (.int x :: st) h Q := go_lo (E := (.iload_n 3, 0, 0, 0)) rfl rfl rfl
theorem s_97_39 : Go d 97 39 L (st) h Q = Go d 97 40 L (.int (-1) :: st) h Q := go_ic rfl ci_im1
theorem s_97_40 : Go d 97 40 L (.int y :: .int x :: st) h Q = Go d 97 41 L (.int (x ^^^ y) :: st) h Q := go_op (E := (.ixor, 0, 0, 0)) rfl rfl
theorem s_97_41 : Go d 97 41 L (.int y :: .int x :: st) h Q = Go d 97 42 L (.int (x &&& y) :: st) h Q := go_op (E := (.iand, 0, 0, 0)) rfl rfl
theorem s_97_42 : Go d 97 42 L (.int x :: st) h Q = (if x = 0 then Go d 97 45 L st h Q else Go d 97 54 L st h Q) := go_ifne rfl
theorem s_97_45 : Go d 97 45 [o0, o1, o2, o3, some (.int x), o5] (st) h Q = Go d 97 47 [o0, o1, o2, o3, some (.int x), o5] (.int x :: st) h Q := go_lo (E := (.iload 4, 0, 0, 0)) rfl rfl rfl
theorem s_97_47 : Go d 97 47 L (st) h Q = Go d 97 48 L (.int (nI 1) :: st) h Q := go_ic rfl ci_i1
theorem s_97_48 : Go d 97 48 [o0, o1, o2, o3, o4, some (.int x)] (st) h Q = Go d 97 50 [o0, o1, o2, o3, o4, some (.int x)] (.int x :: st) h Q := go_lo (E := (.iload 5, 0, 0, 0)) rfl rfl rfl
theorem s_97_50 : Go d 97 50 L (.int y :: .int x :: st) h Q = Go d 97 51 L (.int (x <<< (y &&& 31)) :: st) h Q := go_op (E := (.ishl, 0, 0, 0)) rfl rfl
theorem s_97_51 : Go d 97 51 L (.int y :: .int x :: st) h Q = Go d 97 52 L (.int (x ||| y) :: st) h Q := go_op (E := (.ior, 0, 0, 0)) rfl rfl
theorem s_97_52 : Go d 97 52 [o0, o1, o2, o3, o4, o5] (.int x :: st) h Q = Go d 97 54 [o0, o1, o2, o3, some (.int x), o5] (st) h Q := go_lo (E := (.istore 4, 0, 0, 0)) rfl rfl rfl
theorem s_97_54 : Go d 97 54 [o0, o1, o2, o3, o4, some (.int x)] (st) h Q = Go d 97 57 [o0, o1, o2, o3, o4, some (.int (x + nI 1))] (st) h Q := (ci_i1 ▸ go_lo (E := (.iinc 5 1, 0, 0, 0)) rfl rfl rfl : _ = Go d 97 57 [o0, o1, o2, o3, o4, some (.int (x + nI 1))] (st) h Q)
theorem s_97_57 : Go d 97 57 L (st) h Q = Go d 97 13 L (st) h Q := go_goto rfl
theorem s_97_60 : Go d 97 60 [o0, o1, o2, o3, some (.int x), o5] (st) h Q = Go d 97 62 [o0, o1, o2, o3, some (.int x), o5] (.int x :: st) h Q := go_lo (E := (.iload 4, 0, 0, 0)) rfl rfl rfl
theorem s_97_62 : Go d 97 62 [some (.ref r), o1, o2, o3, o4, o5] (st) h Q = Go d 97 63 [some (.ref r), o1, o2, o3, o4, o5] (.ref r :: st) h Q := go_lo (E := (.aload_n 0, 0, 0, 0)) rfl rfl rfl
theorem s_97_63 : Go d 97 63 L (.ref 35 :: st) (HP lx xs M) Q = Go d 97 66 L (.ref 37 :: st) (HP lx xs M) Q := go_gf rfl rfl (by decide) rfl
theorem s_97_66 : Go d 97 66 [o0, some (.int x), o2, o3, o4, o5] (st) h Q = Go d 97 67 [o0, some (.int x), o2, o3, o4, o5] (.int x :: st) h Q := go_lo (E := (.iload_n 1, 0, 0, 0)) rfl rfl rfl
theorem s_97_67 : Go d 97 67 L (.int x :: .ref 37 :: st) (HP lx xs M) Q = (ex_in x 6 = true ∧ Go d 97 68 L (.int (M 37 x.toNatClampNeg) :: st) (HP lx xs M) Q) := go_al rfl rfl
theorem s_97_68 : Go d 97 68 L (.int y :: .int x :: st) h Q = Go d 97 69 L (.int (x &&& y) :: st) h Q := go_op (E := (.iand, 0, 0, 0)) rfl rfl
theorem s_97_69 : Go d 97 69 L [.int x] h Q = Q (some (.int x)) h := go_ri rfl rfl
theorem s_98_0 : Go d 98 0 [o0, some (.int x), o2, o3, o4, o5, o6, o7] (st) h Q = Go d 98 1 [o0, some (.int x), o2, o3, o4, o5, o6, o7] (.int x :: st) h Q := go_lo (E := (.iload_n 1, 0, 0, 0)) rfl rfl rfl
theorem s_98_1 : Go d 98 1 [o0, o1, o2, o3, o4, o5, o6, o7] (.int x :: st) h Q = Go d 98 2 [o0, o1, some (.int x), o3, o4, o5, o6, o7] (st) h Q := go_lo (E := (.istore_n 2, 0, 0, 0)) rfl rfl rfl
theorem s_98_2 : Go d 98 2 L (st) h Q = Go d 98 3 L (.int (nI 0) :: st) h Q := go_ic rfl ci_i0
theorem s_98_3 : Go d 98 3 [o0, o1, o2, o3, o4, o5, o6, o7] (.int x :: st) h Q = Go d 98 4 [o0, o1, o2, some (.int x), o4, o5, o6, o7] (st) h Q := go_lo (E := (.istore_n 3, 0, 0, 0)) rfl rfl rfl
theorem s_98_4 : Go d 98 4 [o0, o1, o2, some (.int x), o4, o5, o6, o7] (st) h Q = Go d 98 5 [o0, o1, o2, some (.int x), o4, o5, o6, o7] (.int x :: st) h Q := go_lo (E := (.iload_n 3, 0, 0, 0)) rfl rfl rfl
theorem s_98_5 : Go d 98 5 L (st) h Q = Go d 98 7 L (.int (nI 12) :: st) h Q := go_bi rfl ci_b12
theorem s_98_7 : Go d 98 7 L (.int y :: .int x :: st) h Q = (if x < y then Go d 98 10 L st h Q else Go d 98 114 L st h Q) := go_icge rfl
theorem s_98_10 : Go d 98 10 [o0, o1, some (.int x), o3, o4, o5, o6, o7] (st) h Q = Go d 98 11 [o0, o1, some (.int x), o3, o4, o5, o6, o7] (.int x :: st) h Q := go_lo (E := (.iload_n 2, 0, 0, 0)) rfl rfl rfl
theorem s_98_11 : Go d 98 11 [o0, o1, o2, o3, o4, o5, o6, o7] (.int x :: st) h Q = Go d 98 13 [o0, o1, o2, o3, some (.int x), o5, o6, o7] (st) h Q := go_lo (E := (.istore 4, 0, 0, 0)) rfl rfl rfl
theorem s_98_13 : Go d 98 13 L (st) h Q = Go d 98 14 L (.int (nI 0) :: st) h Q := go_ic rfl ci_i0
theorem s_98_14 : Go d 98 14 [o0, o1, o2, o3, o4, o5, o6, o7] (.int x :: st) h Q = Go d 98 16 [o0, o1, o2, o3, o4, some (.int x), o6, o7] (st) h Q := go_lo (E := (.istore 5, 0, 0, 0)) rfl rfl rfl
theorem s_98_16 : Go d 98 16 [o0, o1, o2, o3, o4, some (.int x), o6, o7] (st) h Q = Go d 98 18 [o0, o1, o2, o3, o4, some (.int x), o6, o7] (.int x :: st) h Q := go_lo (E := (.iload 5, 0, 0, 0)) rfl rfl rfl
theorem s_98_18 : Go d 98 18 [some (.ref r), o1, o2, o3, o4, o5, o6, o7] (st) h Q = Go d 98 19 [some (.ref r), o1, o2, o3, o4, o5, o6, o7] (.ref r :: st) h Q := go_lo (E := (.aload_n 0, 0, 0, 0)) rfl rfl rfl
theorem s_98_19 : Go d 98 19 L (.ref 35 :: st) (HP lx xs M) Q = Go d 98 22 L (.int (M 35 6) :: st) (HP lx xs M) Q := go_gf rfl rfl (by decide) rfl
theorem s_98_22 : Go d 98 22 L (.int y :: .int x :: st) h Q = (if x < y then Go d 98 25 L st h Q else Go d 98 100 L st h Q) := go_icge rfl
theorem s_98_25 : Go d 98 25 L (st) h Q = Go d 98 26 L (.int (nI 0) :: st) h Q := go_ic rfl ci_i0
theorem s_98_26 : Go d 98 26 [o0, o1, o2, o3, o4, o5, o6, o7] (.int x :: st) h Q = Go d 98 28 [o0, o1, o2, o3, o4, o5, some (.int x), o7] (st) h Q := go_lo (E := (.istore 6, 0, 0, 0)) rfl rfl rfl
theorem s_98_28 : Go d 98 28 L (st) h Q = Go d 98 29 L (.int (nI 0) :: st) h Q := go_ic rfl ci_i0
theorem s_98_29 : Go d 98 29 [o0, o1, o2, o3, o4, o5, o6, o7] (.int x :: st) h Q = Go d 98 31 [o0, o1, o2, o3, o4, o5, o6, some (.int x)] (st) h Q := go_lo (E := (.istore 7, 0, 0, 0)) rfl rfl rfl
theorem s_98_31 : Go d 98 31 [o0, o1, o2, o3, o4, o5, o6, some (.int x)] (st) h Q = Go d 98 33 [o0, o1, o2, o3, o4, o5, o6, some (.int x)] (.int x :: st) h Q := go_lo (E := (.iload 7, 0, 0, 0)) rfl rfl rfl
theorem s_98_33 : Go d 98 33 [some (.ref r), o1, o2, o3, o4, o5, o6, o7] (st) h Q = Go d 98 34 [some (.ref r), o1, o2, o3, o4, o5, o6, o7] (.ref r :: st) h Q := go_lo (E := (.aload_n 0, 0, 0, 0)) rfl rfl rfl
theorem s_98_34 : Go d 98 34 L (.ref 35 :: st) (HP lx xs M) Q = Go d 98 37 L (.int (M 35 6) :: st) (HP lx xs M) Q := go_gf rfl rfl (by decide) rfl
theorem s_98_37 : Go d 98 37 L (.int y :: .int x :: st) h Q = (if x < y then Go d 98 40 L st h Q else Go d 98 73 L st h Q) := go_icge rfl
theorem s_98_40 : Go d 98 40 [some (.ref r), o1, o2, o3, o4, o5, o6, o7] (st) h Q = Go d 98 41 [some (.ref r), o1, o2, o3, o4, o5, o6, o7] (.ref r :: st) h Q := go_lo (E := (.aload_n 0, 0, 0, 0)) rfl rfl rfl
theorem s_98_41 : Go d 98 41 L (.ref 35 :: st) (HP lx xs M) Q = Go d 98 44 L (.ref 38 :: st) (HP lx xs M) Q := go_gf rfl rfl (by decide) rfl
theorem s_98_44 : Go d 98 44 [o0, o1, o2, o3, o4, some (.int x), o6, o7] (st) h Q = Go d 98 46 [o0, o1, o2, o3, o4, some (.int x), o6, o7] (.int x :: st) h Q := go_lo (E := (.iload 5, 0, 0, 0)) rfl rfl rfl
theorem s_98_46 : Go d 98 46 L (.int x :: .ref 38 :: st) (HP lx xs M) Q = (ex_in x 6 = true ∧ Go d 98 47 L (.int (M 38 x.toNatClampNeg) :: st) (HP lx xs M) Q) := go_al rfl rfl
theorem s_98_47 : Go d 98 47 [o0, o1, o2, o3, o4, o5, o6, some (.int x)] (st) h Q = Go d 98 49 [o0, o1, o2, o3, o4, o5, o6, some (.int x)] (.int x :: st) h Q := go_lo (E := (.iload 7, 0, 0, 0)) rfl rfl rfl
theorem s_98_49 {a0 : Int32} {a1 : Int32} : Go (d + 1) 98 49 L [.int a1, .int a0] h Q = Go d 49 0 [some (.int a0), some (.int a1)] [] h (fun v h2 => Go (d + 1) 98 52 L (ap v []) h2 Q) := go_cx (E := (.invokestatic 70, 49, 1, 0)) (k' := 49) (as := [.int a0, .int a1]) rfl rfl rfl rfl rfl rfl rfl rfl
theorem s_98_52 : Go d 98 52 L (.int x :: st) h Q = (if x = 0 then Go d 98 67 L st h Q else Go d 98 55 L st h Q) := go_ifeq rfl
theorem s_98_55 : Go d 98 55 [o0, o1, o2, o3, o4, o5, some (.int x), o7] (st) h Q = Go d 98 57 [o0, o1, o2, o3, o4, o5, some (.int x), o7] (.int x :: st) h Q := go_lo (E := (.iload 6, 0, 0, 0)) rfl rfl rfl
theorem s_98_57 : Go d 98 57 [some (.ref r), o1, o2, o3, o4, o5, o6, o7] (st) h Q = Go d 98 58 [some (.ref r), o1, o2, o3, o4, o5, o6, o7] (.ref r :: st) h Q := go_lo (E := (.aload_n 0, 0, 0, 0)) rfl rfl rfl
theorem s_98_58 : Go d 98 58 [o0, o1, o2, o3, o4, o5, o6, some (.int x)] (st) h Q = Go d 98 60 [o0, o1, o2, o3, o4, o5, o6, some (.int x)] (.int x :: st) h Q := go_lo (E := (.iload 7, 0, 0, 0)) rfl rfl rfl
theorem s_98_60 : Go d 98 60 [o0, o1, some (.int x), o3, o4, o5, o6, o7] (st) h Q = Go d 98 61 [o0, o1, some (.int x), o3, o4, o5, o6, o7] (.int x :: st) h Q := go_lo (E := (.iload_n 2, 0, 0, 0)) rfl rfl rfl
theorem s_98_61 {a1 : Int32} {a2 : Int32} {z0 : Int32} : Go (d + 1) 98 61 L [.int a2, .int a1, .ref 35, .int z0] (HP lx xs M) Q = Go d 96 0 [some (.ref 35), some (.int a1), some (.int a2)] [] (HP lx xs M) (fun v h2 => Go (d + 1) 98 64 L (ap v [.int z0]) h2 Q) := go_cx (E := (.invokevirtual 88, 96, 0, 4)) (k' := 96) (as := [.ref 35, .int a1, .int a2]) rfl rfl rfl rfl rfl rfl rfl rfl
theorem s_98_64 : Go d 98 64 L (.int y :: .int x :: st) h Q = Go d 98 65 L (.int (x ||| y) :: st) h Q := go_op (E := (.ior, 0, 0, 0)) rfl rfl
theorem s_98_65 : Go d 98 65 [o0, o1, o2, o3, o4, o5, o6, o7] (.int x :: st) h Q = Go d 98 67 [o0, o1, o2, o3, o4, o5, some (.int x), o7] (st) h Q := go_lo (E := (.istore 6, 0, 0, 0)) rfl rfl rfl
theorem s_98_67 : Go d 98 67 [o0, o1, o2, o3, o4, o5, o6, some (.int x)] (st) h Q = Go d 98 70 [o0, o1, o2, o3, o4, o5, o6, some (.int (x + nI 1))] (st) h Q := (ci_i1 ▸ go_lo (E := (.iinc 7 1, 0, 0, 0)) rfl rfl rfl : _ = Go d 98 70 [o0, o1, o2, o3, o4, o5, o6, some (.int (x + nI 1))] (st) h Q)
theorem s_98_70 : Go d 98 70 L (st) h Q = Go d 98 31 L (st) h Q := go_goto rfl
theorem s_98_73 : Go d 98 73 [o0, o1, some (.int x), o3, o4, o5, o6, o7] (st) h Q = Go d 98 74 [o0, o1, some (.int x), o3, o4, o5, o6, o7] (.int x :: st) h Q := go_lo (E := (.iload_n 2, 0, 0, 0)) rfl rfl rfl
theorem s_98_74 : Go d 98 74 [o0, o1, o2, o3, o4, o5, some (.int x), o7] (st) h Q = Go d 98 76 [o0, o1, o2, o3, o4, o5, some (.int x), o7] (.int x :: st) h Q := go_lo (E := (.iload 6, 0, 0, 0)) rfl rfl rfl
theorem s_98_76 : Go d 98 76 [some (.ref r), o1, o2, o3, o4, o5, o6, o7] (st) h Q = Go d 98 77 [some (.ref r), o1, o2, o3, o4, o5, o6, o7] (.ref r :: st) h Q := go_lo (E := (.aload_n 0, 0, 0, 0)) rfl rfl rfl
theorem s_98_77 : Go d 98 77 [o0, o1, o2, o3, o4, some (.int x), o6, o7] (st) h Q = Go d 98 79 [o0, o1, o2, o3, o4, some (.int x), o6, o7] (.int x :: st) h Q := go_lo (E := (.iload 5, 0, 0, 0)) rfl rfl rfl
theorem s_98_79 : Go d 98 79 [o0, o1, some (.int x), o3, o4, o5, o6, o7] (st) h Q = Go d 98 80 [o0, o1, some (.int x), o3, o4, o5, o6, o7] (.int x :: st) h Q := go_lo (E := (.iload_n 2, 0, 0, 0)) rfl rfl rfl
theorem s_98_80 {a1 : Int32} {a2 : Int32} {z0 : Int32} {z1 : Int32} : Go (d + 1) 98 80 L [.int a2, .int a1, .ref 35, .int z1, .int z0] (HP lx xs M) Q = Go d 97 0 [some (.ref 35), some (.int a1), some (.int a2), none, none, none] [] (HP lx xs M) (fun v h2 => Go (d + 1) 98 83 L (ap v [.int z1, .int z0]) h2 Q) := go_cx (E := (.invokevirtual 91, 97, 0, 4)) (k' := 97) (as := [.ref 35, .int a1, .int a2]) rfl rfl rfl rfl rfl rfl rfl rfl
theorem s_98_83 : Go d 98 83 L (.int y :: .int x :: st) h Q = Go d 98 84 L (.int (x &&& y) :: st) h Q := go_op (E := (.iand, 0, 0, 0)) rfl rfl
theorem s_98_84 : Go d 98 84 [o0, o1, o2, o3, o4, some (.int x), o6, o7] (st) h Q = Go d 98 86 [o0, o1, o2, o3, o4, some (.int x), o6, o7] (.int x :: st) h Q := go_lo (E := (.iload 5, 0, 0, 0)) rfl rfl rfl
theorem s_98_86 : Go d 98 86 [some (.ref r), o1, o2, o3, o4, o5, o6, o7] (st) h Q = Go d 98 87 [some (.ref r), o1, o2, o3, o4, o5, o6, o7] (.ref r :: st) h Q := go_lo (E := (.aload_n 0, 0, 0, 0)) rfl rfl rfl
theorem s_98_87 : Go d 98 87 L (.ref 35 :: st) (HP lx xs M) Q = Go d 98 90 L (.int (M 35 7) :: st) (HP lx xs M) Q := go_gf rfl rfl (by decide) rfl
theorem s_98_90 : Go d 98 90 L (.int y :: .int x :: st) h Q = Go d 98 91 L (.int (x * y) :: st) h Q := go_op (E := (.imul, 0, 0, 0)) rfl rfl
theorem s_98_91 : Go d 98 91 L (.int y :: .int x :: st) h Q = Go d 98 92 L (.int (x <<< (y &&& 31)) :: st) h Q := go_op (E := (.ishl, 0, 0, 0)) rfl rfl
theorem s_98_92 : Go d 98 92 L (.int y :: .int x :: st) h Q = Go d 98 93 L (.int (x ||| y) :: st) h Q := go_op (E := (.ior, 0, 0, 0)) rfl rfl
theorem s_98_93 : Go d 98 93 [o0, o1, o2, o3, o4, o5, o6, o7] (.int x :: st) h Q = Go d 98 94 [o0, o1, some (.int x), o3, o4, o5, o6, o7] (st) h Q := go_lo (E := (.istore_n 2, 0, 0, 0)) rfl rfl rfl
theorem s_98_94 : Go d 98 94 [o0, o1, o2, o3, o4, some (.int x), o6, o7] (st) h Q = Go d 98 97 [o0, o1, o2, o3, o4, some (.int (x + nI 1)), o6, o7] (st) h Q := (ci_i1 ▸ go_lo (E := (.iinc 5 1, 0, 0, 0)) rfl rfl rfl : _ = Go d 98 97 [o0, o1, o2, o3, o4, some (.int (x + nI 1)), o6, o7] (st) h Q)
theorem s_98_97 : Go d 98 97 L (st) h Q = Go d 98 16 L (st) h Q := go_goto rfl
theorem s_98_100 : Go d 98 100 [o0, o1, some (.int x), o3, o4, o5, o6, o7] (st) h Q = Go d 98 101 [o0, o1, some (.int x), o3, o4, o5, o6, o7] (.int x :: st) h Q := go_lo (E := (.iload_n 2, 0, 0, 0)) rfl rfl rfl
theorem s_98_101 : Go d 98 101 [o0, o1, o2, o3, some (.int x), o5, o6, o7] (st) h Q = Go d 98 103 [o0, o1, o2, o3, some (.int x), o5, o6, o7] (.int x :: st) h Q := go_lo (E := (.iload 4, 0, 0, 0)) rfl rfl rfl
theorem s_98_103 : Go d 98 103 L (.int y :: .int x :: st) h Q = (if x = y then Go d 98 106 L st h Q else Go d 98 108 L st h Q) := go_icne rfl
theorem s_98_106 : Go d 98 106 [o0, o1, some (.int x), o3, o4, o5, o6, o7] (st) h Q = Go d 98 107 [o0, o1, some (.int x), o3, o4, o5, o6, o7] (.int x :: st) h Q := go_lo (E := (.iload_n 2, 0, 0, 0)) rfl rfl rfl
theorem s_98_107 : Go d 98 107 L [.int x] h Q = Q (some (.int x)) h := go_ri rfl rfl
theorem s_98_108 : Go d 98 108 [o0, o1, o2, some (.int x), o4, o5, o6, o7] (st) h Q = Go d 98 111 [o0, o1, o2, some (.int (x + nI 1)), o4, o5, o6, o7] (st) h Q := (ci_i1 ▸ go_lo (E := (.iinc 3 1, 0, 0, 0)) rfl rfl rfl : _ = Go d 98 111 [o0, o1, o2, some (.int (x + nI 1)), o4, o5, o6, o7] (st) h Q)
theorem s_98_111 : Go d 98 111 L (st) h Q = Go d 98 4 L (st) h Q := go_goto rfl
theorem s_98_114 : Go d 98 114 [o0, o1, some (.int x), o3, o4, o5, o6, o7] (st) h Q = Go d 98 115 [o0, o1, some (.int x), o3, o4, o5, o6, o7] (.int x :: st) h Q := go_lo (E := (.iload_n 2, 0, 0, 0)) rfl rfl rfl
theorem s_98_115 : Go d 98 115 L [.int x] h Q = Q (some (.int x)) h := go_ri rfl rfl
theorem s_99_0 : Go d 99 0 [some (.ref r), o1] (st) h Q = Go d 99 1 [some (.ref r), o1] (.ref r :: st) h Q := go_lo (E := (.aload_n 0, 0, 0, 0)) rfl rfl rfl
theorem s_99_1 : Go d 99 1 L (.ref 35 :: st) (HP lx xs M) Q = Go d 99 4 L (.int (M 35 8) :: st) (HP lx xs M) Q := go_gf rfl rfl (by decide) rfl
theorem s_99_4 : Go d 99 4 [o0, some (.int x)] (st) h Q = Go d 99 5 [o0, some (.int x)] (.int x :: st) h Q := go_lo (E := (.iload_n 1, 0, 0, 0)) rfl rfl rfl
theorem s_99_5 : Go d 99 5 L (st) h Q = Go d 99 6 L (.int (-1) :: st) h Q := go_ic rfl ci_im1
theorem s_99_6 : Go d 99 6 L (.int y :: .int x :: st) h Q = Go d 99 7 L (.int (x ^^^ y) :: st) h Q := go_op (E := (.ixor, 0, 0, 0)) rfl rfl
theorem s_99_7 : Go d 99 7 L (.int y :: .int x :: st) h Q = Go d 99 8 L (.int (x &&& y) :: st) h Q := go_op (E := (.iand, 0, 0, 0)) rfl rfl
theorem s_99_8 {a0 : Int32} : Go (d + 1) 99 8 L [.int a0] h Q = Go d 12 0 [some (.int a0)] [] h (fun v h2 => Go (d + 1) 99 11 L (ap v []) h2 Q) := go_cx (E := (.invokestatic 59, 12, 0, 0)) (k' := 12) (as := [.int a0]) rfl rfl rfl rfl rfl rfl rfl rfl
theorem s_99_11 : Go d 99 11 L [.int x] h Q = Q (some (.int x)) h := go_ri rfl rfl
theorem s_100_0 : Go d 100 0 [o0, o1, some (.int x)] (st) h Q = Go d 100 1 [o0, o1, some (.int x)] (.int x :: st) h Q := go_lo (E := (.iload_n 2, 0, 0, 0)) rfl rfl rfl
theorem s_100_1 : Go d 100 1 [some (.ref r), o1, o2] (st) h Q = Go d 100 2 [some (.ref r), o1, o2] (.ref r :: st) h Q := go_lo (E := (.aload_n 0, 0, 0, 0)) rfl rfl rfl
theorem s_100_2 : Go d 100 2 L (.ref 35 :: st) (HP lx xs M) Q = Go d 100 5 L (.int (M 35 8) :: st) (HP lx xs M) Q := go_gf rfl rfl (by decide) rfl
theorem s_100_5 : Go d 100 5 L (.int y :: .int x :: st) h Q = (if x = y then Go d 100 8 L st h Q else Go d 100 10 L st h Q) := go_icne rfl
theorem s_100_8 : Go d 100 8 L (st) h Q = Go d 100 9 L (.int (nI 1) :: st) h Q := go_ic rfl ci_i1
theorem s_100_9_0 : Go d 100 9 L [.int (nI 0)] h Q = Q (some (.int (nI 0))) h := go_rz rfl rfl (by decide)
theorem s_100_9_1 : Go d 100 9 L [.int (nI 1)] h Q = Q (some (.int (nI 1))) h := go_rz rfl rfl (by decide)
theorem s_100_10 : Go d 100 10 [o0, some (.int x), o2] (st) h Q = Go d 100 11 [o0, some (.int x), o2] (.int x :: st) h Q := go_lo (E := (.iload_n 1, 0, 0, 0)) rfl rfl rfl
theorem s_100_11 : Go d 100 11 [some (.ref r), o1, o2] (st) h Q = Go d 100 12 [some (.ref r), o1, o2] (.ref r :: st) h Q := go_lo (E := (.aload_n 0, 0, 0, 0)) rfl rfl rfl
theorem s_100_12 : Go d 100 12 L (.ref 35 :: st) (HP lx xs M) Q = Go d 100 15 L (.ref 41 :: st) (HP lx xs M) Q := go_gf rfl rfl (by decide) rfl
theorem s_100_15 : Go d 100 15 [o0, o1, some (.int x)] (st) h Q = Go d 100 16 [o0, o1, some (.int x)] (.int x :: st) h Q := go_lo (E := (.iload_n 2, 0, 0, 0)) rfl rfl rfl
theorem s_100_16 : Go d 100 16 L (.int x :: .ref 41 :: st) (HP lx xs M) Q = (ex_in x 4096 = true ∧ Go d 100 17 L (.int (M 41 x.toNatClampNeg) :: st) (HP lx xs M) Q) := go_bl rfl rfl (by decide) (by decide)
theorem s_100_17 : Go d 100 17 L (.int y :: .int x :: st) h Q = (if y < x then Go d 100 20 L st h Q else Go d 100 36 L st h Q) := go_icle rfl
theorem s_100_20 : Go d 100 20 [some (.ref r), o1, o2] (st) h Q = Go d 100 21 [some (.ref r), o1, o2] (.ref r :: st) h Q := go_lo (E := (.aload_n 0, 0, 0, 0)) rfl rfl rfl
theorem s_100_21 : Go d 100 21 [o0, o1, some (.int x)] (st) h Q = Go d 100 22 [o0, o1, some (.int x)] (.int x :: st) h Q := go_lo (E := (.iload_n 2, 0, 0, 0)) rfl rfl rfl
theorem s_100_22 {a1 : Int32} : Go (d + 1) 100 22 L [.int a1, .ref 35] (HP lx xs M) Q = Go d 99 0 [some (.ref 35), some (.int a1)] [] (HP lx xs M) (fun v h2 => Go (d + 1) 100 25 L (ap v []) h2 Q) := go_cx (E := (.invokevirtual 94, 99, 0, 4)) (k' := 99) (as := [.ref 35, .int a1]) rfl rfl rfl rfl rfl rfl rfl rfl
theorem s_100_25 : Go d 100 25 [o0, some (.int x), o2] (st) h Q = Go d 100 26 [o0, some (.int x), o2] (.int x :: st) h Q := go_lo (E := (.iload_n 1, 0, 0, 0)) rfl rfl rfl
theorem s_100_26 : Go d 100 26 [some (.ref r), o1, o2] (st) h Q = Go d 100 27 [some (.ref r), o1, o2] (.ref r :: st) h Q := go_lo (E := (.aload_n 0, 0, 0, 0)) rfl rfl rfl
theorem s_100_27 : Go d 100 27 L (.ref 35 :: st) (HP lx xs M) Q = Go d 100 30 L (.int (M 35 6) :: st) (HP lx xs M) Q := go_gf rfl rfl (by decide) rfl
theorem s_100_30 : Go d 100 30 L (st) h Q = Go d 100 31 L (.int (nI 2) :: st) h Q := go_ic rfl ci_i2
theorem s_100_31 : Go d 100 31 L (.int y :: .int x :: st) h Q = (¬ y = 0 ∧ Go d 100 32 L (.int (x / y) :: st) h Q) := go_idv rfl
theorem s_100_32 : Go d 100 32 L (.int y :: .int x :: st) h Q = Go d 100 33 L (.int (x * y) :: st) h Q := go_op (E := (.imul, 0, 0, 0)) rfl rfl
theorem s_100_33 : Go d 100 33 L (.int y :: .int x :: st) h Q = (if y < x then Go d 100 36 L st h Q else Go d 100 38 L st h Q) := go_icle rfl
theorem s_100_36 : Go d 100 36 L (st) h Q = Go d 100 37 L (.int (nI 0) :: st) h Q := go_ic rfl ci_i0
theorem s_100_37_0 : Go d 100 37 L [.int (nI 0)] h Q = Q (some (.int (nI 0))) h := go_rz rfl rfl (by decide)
theorem s_100_37_1 : Go d 100 37 L [.int (nI 1)] h Q = Q (some (.int (nI 1))) h := go_rz rfl rfl (by decide)
theorem s_100_38 : Go d 100 38 [some (.ref r), o1, o2] (st) h Q = Go d 100 39 [some (.ref r), o1, o2] (.ref r :: st) h Q := go_lo (E := (.aload_n 0, 0, 0, 0)) rfl rfl rfl
theorem s_100_39 : Go d 100 39 [o0, some (.int x), o2] (st) h Q = Go d 100 40 [o0, some (.int x), o2] (.int x :: st) h Q := go_lo (E := (.iload_n 1, 0, 0, 0)) rfl rfl rfl
theorem s_100_40 : Go d 100 40 [o0, o1, some (.int x)] (st) h Q = Go d 100 41 [o0, o1, some (.int x)] (.int x :: st) h Q := go_lo (E := (.iload_n 2, 0, 0, 0)) rfl rfl rfl
theorem s_100_41 {a1 : Int32} {a2 : Int32} : Go (d + 1) 100 41 L [.int a2, .int a1, .ref 35] (HP lx xs M) Q = Go d 101 0 [some (.ref 35), some (.int a1), some (.int a2), none, none, none, none, none] [] (HP lx xs M) (fun v h2 => Go (d + 1) 100 44 L (ap v []) h2 Q) := go_cx (E := (.invokevirtual 97, 101, 0, 4)) (k' := 101) (as := [.ref 35, .int a1, .int a2]) rfl rfl rfl rfl rfl rfl rfl rfl
theorem s_100_44 : Go d 100 44 [some (.ref r), o1, o2] (st) h Q = Go d 100 45 [some (.ref r), o1, o2] (.ref r :: st) h Q := go_lo (E := (.aload_n 0, 0, 0, 0)) rfl rfl rfl
theorem s_100_45 : Go d 100 45 [o0, some (.int x), o2] (st) h Q = Go d 100 46 [o0, some (.int x), o2] (.int x :: st) h Q := go_lo (E := (.iload_n 1, 0, 0, 0)) rfl rfl rfl
theorem s_100_46 : Go d 100 46 L (st) h Q = Go d 100 47 L (.int (nI 1) :: st) h Q := go_ic rfl ci_i1
theorem s_100_47 : Go d 100 47 [some (.ref r), o1, o2] (st) h Q = Go d 100 48 [some (.ref r), o1, o2] (.ref r :: st) h Q := go_lo (E := (.aload_n 0, 0, 0, 0)) rfl rfl rfl
theorem s_100_48 : Go d 100 48 L (.ref 35 :: st) (HP lx xs M) Q = Go d 100 51 L (.int (M 35 6) :: st) (HP lx xs M) Q := go_gf rfl rfl (by decide) rfl
theorem s_100_51 : Go d 100 51 L (.int y :: .int x :: st) h Q = Go d 100 52 L (.int (x <<< (y &&& 31)) :: st) h Q := go_op (E := (.ishl, 0, 0, 0)) rfl rfl
theorem s_100_52 : Go d 100 52 L (st) h Q = Go d 100 53 L (.int (nI 1) :: st) h Q := go_ic rfl ci_i1
theorem s_100_53 : Go d 100 53 L (.int y :: .int x :: st) h Q = Go d 100 54 L (.int (x - y) :: st) h Q := go_op (E := (.isub, 0, 0, 0)) rfl rfl
theorem s_100_54 : Go d 100 54 L (st) h Q = Go d 100 55 L (.int (nI 0) :: st) h Q := go_ic rfl ci_i0
theorem s_100_55 : Go d 100 55 [o0, o1, some (.int x)] (st) h Q = Go d 100 56 [o0, o1, some (.int x)] (.int x :: st) h Q := go_lo (E := (.iload_n 2, 0, 0, 0)) rfl rfl rfl
theorem s_100_56 {a1 : Int32} {a2 : Int32} {a3 : Int32} {a4 : Int32} : Go (d + 1) 100 56 L [.int a4, .int a3, .int a2, .int a1, .ref 35] (HP lx xs M) Q = Go d 102 0 [some (.ref 35), some (.int a1), some (.int a2), some (.int a3), some (.int a4), none, none, none, none, none, none] [] (HP lx xs M) (fun v h2 => Go (d + 1) 100 59 L (ap v []) h2 Q) := go_cx (E := (.invokevirtual 101, 102, 0, 4)) (k' := 102) (as := [.ref 35, .int a1, .int a2, .int a3, .int a4]) rfl rfl rfl rfl rfl rfl rfl rfl
theorem s_100_59 : Go d 100 59 L (.int x :: st) h Q = (if x = 0 then Go d 100 64 L st h Q else Go d 100 62 L st h Q) := go_ifeq rfl
theorem s_100_62 : Go d 100 62 L (st) h Q = Go d 100 63 L (.int (nI 1) :: st) h Q := go_ic rfl ci_i1
theorem s_100_63_0 : Go d 100 63 L [.int (nI 0)] h Q = Q (some (.int (nI 0))) h := go_rz rfl rfl (by decide)
theorem s_100_63_1 : Go d 100 63 L [.int (nI 1)] h Q = Q (some (.int (nI 1))) h := go_rz rfl rfl (by decide)
theorem s_100_64 : Go d 100 64 [some (.ref r), o1, o2] (st) h Q = Go d 100 65 [some (.ref r), o1, o2] (.ref r :: st) h Q := go_lo (E := (.aload_n 0, 0, 0, 0)) rfl rfl rfl
theorem s_100_65 : Go d 100 65 L (.ref 35 :: st) (HP lx xs M) Q = Go d 100 68 L (.ref 41 :: st) (HP lx xs M) Q := go_gf rfl rfl (by decide) rfl
theorem s_100_68 : Go d 100 68 [o0, o1, some (.int x)] (st) h Q = Go d 100 69 [o0, o1, some (.int x)] (.int x :: st) h Q := go_lo (E := (.iload_n 2, 0, 0, 0)) rfl rfl rfl
theorem s_100_69 : Go d 100 69 [o0, some (.int x), o2] (st) h Q = Go d 100 70 [o0, some (.int x), o2] (.int x :: st) h Q := go_lo (E := (.iload_n 1, 0, 0, 0)) rfl rfl rfl
theorem s_100_70 : Go d 100 70 L (.int x :: st) h Q = Go d 100 71 L (.int (x.toInt8.toInt32) :: st) h Q := go_op (E := (.i2b, 0, 0, 0)) rfl rfl
theorem s_100_71 : Go d 100 71 L (.int y :: .int x :: .ref 41 :: st) (HP lx xs M) Q = (ex_in x 4096 = true ∧ Go d 100 72 L (st) (HP lx xs (up M 41 x.toNatClampNeg (vp_nar .byte y))) Q) := go_bs1 rfl rfl (by decide) hs_41
theorem s_100_72 : Go d 100 72 L (st) h Q = Go d 100 73 L (.int (nI 0) :: st) h Q := go_ic rfl ci_i0
theorem s_100_73_0 : Go d 100 73 L [.int (nI 0)] h Q = Q (some (.int (nI 0))) h := go_rz rfl rfl (by decide)
theorem s_100_73_1 : Go d 100 73 L [.int (nI 1)] h Q = Q (some (.int (nI 1))) h := go_rz rfl rfl (by decide)
theorem s_101_0 : Go d 101 0 [o0, some (.int x), o2, o3, o4, o5, o6, o7] (st) h Q = Go d 101 1 [o0, some (.int x), o2, o3, o4, o5, o6, o7] (.int x :: st) h Q := go_lo (E := (.iload_n 1, 0, 0, 0)) rfl rfl rfl
theorem s_101_1 : Go d 101 1 L (st) h Q = Go d 101 3 L (.int (nI 6) :: st) h Q := go_bi rfl ci_b6
theorem s_101_3 : Go d 101 3 L (.int y :: .int x :: st) h Q = Go d 101 4 L (.int (x * y) :: st) h Q := go_op (E := (.imul, 0, 0, 0)) rfl rfl
theorem s_101_4 : Go d 101 4 [o0, o1, o2, o3, o4, o5, o6, o7] (.int x :: st) h Q = Go d 101 5 [o0, o1, o2, some (.int x), o4, o5, o6, o7] (st) h Q := go_lo (E := (.istore_n 3, 0, 0, 0)) rfl rfl rfl
theorem s_101_5 : Go d 101 5 L (st) h Q = Go d 101 6 L (.int (nI 0) :: st) h Q := go_ic rfl ci_i0
theorem s_101_6 : Go d 101 6 [o0, o1, o2, o3, o4, o5, o6, o7] (.int x :: st) h Q = Go d 101 8 [o0, o1, o2, o3, some (.int x), o5, o6, o7] (st) h Q := go_lo (E := (.istore 4, 0, 0, 0)) rfl rfl rfl
theorem s_101_8 : Go d 101 8 [o0, o1, o2, o3, some (.int x), o5, o6, o7] (st) h Q = Go d 101 10 [o0, o1, o2, o3, some (.int x), o5, o6, o7] (.int x :: st) h Q := go_lo (E := (.iload 4, 0, 0, 0)) rfl rfl rfl
theorem s_101_10 : Go d 101 10 [some (.ref r), o1, o2, o3, o4, o5, o6, o7] (st) h Q = Go d 101 11 [some (.ref r), o1, o2, o3, o4, o5, o6, o7] (.ref r :: st) h Q := go_lo (E := (.aload_n 0, 0, 0, 0)) rfl rfl rfl
theorem s_101_11 : Go d 101 11 L (.ref 35 :: st) (HP lx xs M) Q = Go d 101 14 L (.int (M 35 6) :: st) (HP lx xs M) Q := go_gf rfl rfl (by decide) rfl
theorem s_101_14 : Go d 101 14 L (.int y :: .int x :: st) h Q = (if x < y then Go d 101 17 L st h Q else Go d 101 33 L st h Q) := go_icge rfl
theorem s_101_17 : Go d 101 17 [some (.ref r), o1, o2, o3, o4, o5, o6, o7] (st) h Q = Go d 101 18 [some (.ref r), o1, o2, o3, o4, o5, o6, o7] (.ref r :: st) h Q := go_lo (E := (.aload_n 0, 0, 0, 0)) rfl rfl rfl
theorem s_101_18 : Go d 101 18 L (.ref 35 :: st) (HP lx xs M) Q = Go d 101 21 L (.ref 40 :: st) (HP lx xs M) Q := go_gf rfl rfl (by decide) rfl
theorem s_101_21 : Go d 101 21 [o0, o1, o2, some (.int x), o4, o5, o6, o7] (st) h Q = Go d 101 22 [o0, o1, o2, some (.int x), o4, o5, o6, o7] (.int x :: st) h Q := go_lo (E := (.iload_n 3, 0, 0, 0)) rfl rfl rfl
theorem s_101_22 : Go d 101 22 [o0, o1, o2, o3, some (.int x), o5, o6, o7] (st) h Q = Go d 101 24 [o0, o1, o2, o3, some (.int x), o5, o6, o7] (.int x :: st) h Q := go_lo (E := (.iload 4, 0, 0, 0)) rfl rfl rfl
theorem s_101_24 : Go d 101 24 L (.int y :: .int x :: st) h Q = Go d 101 25 L (.int (x + y) :: st) h Q := go_op (E := (.iadd, 0, 0, 0)) rfl rfl
theorem s_101_25 : Go d 101 25 L (st) h Q = Go d 101 26 L (.int (nI 0) :: st) h Q := go_ic rfl ci_i0
theorem s_101_26 : Go d 101 26 L (.int y :: .int x :: .ref 40 :: st) (HP lx xs M) Q = (ex_in x 78 = true ∧ Go d 101 27 L (st) (HP lx xs (up M 40 x.toNatClampNeg y)) Q) := go_as rfl rfl (by decide) hs_40
theorem s_101_27 : Go d 101 27 [o0, o1, o2, o3, some (.int x), o5, o6, o7] (st) h Q = Go d 101 30 [o0, o1, o2, o3, some (.int (x + nI 1)), o5, o6, o7] (st) h Q := (ci_i1 ▸ go_lo (E := (.iinc 4 1, 0, 0, 0)) rfl rfl rfl : _ = Go d 101 30 [o0, o1, o2, o3, some (.int (x + nI 1)), o5, o6, o7] (st) h Q)
theorem s_101_30 : Go d 101 30 L (st) h Q = Go d 101 8 L (st) h Q := go_goto rfl
theorem s_101_33 : Go d 101 33 L (st) h Q = Go d 101 34 L (.int (nI 0) :: st) h Q := go_ic rfl ci_i0
theorem s_101_34 : Go d 101 34 [o0, o1, o2, o3, o4, o5, o6, o7] (.int x :: st) h Q = Go d 101 36 [o0, o1, o2, o3, some (.int x), o5, o6, o7] (st) h Q := go_lo (E := (.istore 4, 0, 0, 0)) rfl rfl rfl
theorem s_101_36 : Go d 101 36 [o0, o1, o2, o3, some (.int x), o5, o6, o7] (st) h Q = Go d 101 38 [o0, o1, o2, o3, some (.int x), o5, o6, o7] (.int x :: st) h Q := go_lo (E := (.iload 4, 0, 0, 0)) rfl rfl rfl
theorem s_101_38 : Go d 101 38 [some (.ref r), o1, o2, o3, o4, o5, o6, o7] (st) h Q = Go d 101 39 [some (.ref r), o1, o2, o3, o4, o5, o6, o7] (.ref r :: st) h Q := go_lo (E := (.aload_n 0, 0, 0, 0)) rfl rfl rfl
theorem s_101_39 : Go d 101 39 L (.ref 35 :: st) (HP lx xs M) Q = Go d 101 42 L (.int (M 35 6) :: st) (HP lx xs M) Q := go_gf rfl rfl (by decide) rfl
theorem s_101_42 : Go d 101 42 L (.int y :: .int x :: st) h Q = (if x < y then Go d 101 45 L st h Q else Go d 101 166 L st h Q) := go_icge rfl
theorem s_101_45 : Go d 101 45 [some (.ref r), o1, o2, o3, o4, o5, o6, o7] (st) h Q = Go d 101 46 [some (.ref r), o1, o2, o3, o4, o5, o6, o7] (.ref r :: st) h Q := go_lo (E := (.aload_n 0, 0, 0, 0)) rfl rfl rfl
theorem s_101_46 : Go d 101 46 [o0, o1, o2, o3, some (.int x), o5, o6, o7] (st) h Q = Go d 101 48 [o0, o1, o2, o3, some (.int x), o5, o6, o7] (.int x :: st) h Q := go_lo (E := (.iload 4, 0, 0, 0)) rfl rfl rfl
theorem s_101_48 : Go d 101 48 [o0, o1, some (.int x), o3, o4, o5, o6, o7] (st) h Q = Go d 101 49 [o0, o1, some (.int x), o3, o4, o5, o6, o7] (.int x :: st) h Q := go_lo (E := (.iload_n 2, 0, 0, 0)) rfl rfl rfl
theorem s_101_49 {a1 : Int32} {a2 : Int32} : Go (d + 1) 101 49 L [.int a2, .int a1, .ref 35] (HP lx xs M) Q = Go d 97 0 [some (.ref 35), some (.int a1), some (.int a2), none, none, none] [] (HP lx xs M) (fun v h2 => Go (d + 1) 101 52 L (ap v []) h2 Q) := go_cx (E := (.invokevirtual 91, 97, 0, 4)) (k' := 97) (as := [.ref 35, .int a1, .int a2]) rfl rfl rfl rfl rfl rfl rfl rfl
theorem s_101_52 : Go d 101 52 [o0, o1, o2, o3, o4, o5, o6, o7] (.int x :: st) h Q = Go d 101 54 [o0, o1, o2, o3, o4, some (.int x), o6, o7] (st) h Q := go_lo (E := (.istore 5, 0, 0, 0)) rfl rfl rfl
theorem s_101_54 : Go d 101 54 L (st) h Q = Go d 101 55 L (.int (nI 0) :: st) h Q := go_ic rfl ci_i0
theorem s_101_55 : Go d 101 55 [o0, o1, o2, o3, o4, o5, o6, o7] (.int x :: st) h Q = Go d 101 57 [o0, o1, o2, o3, o4, o5, some (.int x), o7] (st) h Q := go_lo (E := (.istore 6, 0, 0, 0)) rfl rfl rfl
theorem s_101_57 : Go d 101 57 [o0, o1, o2, o3, o4, o5, some (.int x), o7] (st) h Q = Go d 101 59 [o0, o1, o2, o3, o4, o5, some (.int x), o7] (.int x :: st) h Q := go_lo (E := (.iload 6, 0, 0, 0)) rfl rfl rfl
theorem s_101_59 : Go d 101 59 [some (.ref r), o1, o2, o3, o4, o5, o6, o7] (st) h Q = Go d 101 60 [some (.ref r), o1, o2, o3, o4, o5, o6, o7] (.ref r :: st) h Q := go_lo (E := (.aload_n 0, 0, 0, 0)) rfl rfl rfl
theorem s_101_60 : Go d 101 60 L (.ref 35 :: st) (HP lx xs M) Q = Go d 101 63 L (.int (M 35 6) :: st) (HP lx xs M) Q := go_gf rfl rfl (by decide) rfl
theorem s_101_63 : Go d 101 63 L (.int y :: .int x :: st) h Q = (if x < y then Go d 101 66 L st h Q else Go d 101 160 L st h Q) := go_icge rfl
theorem s_101_66 : Go d 101 66 [some (.ref r), o1, o2, o3, o4, o5, o6, o7] (st) h Q = Go d 101 67 [some (.ref r), o1, o2, o3, o4, o5, o6, o7] (.ref r :: st) h Q := go_lo (E := (.aload_n 0, 0, 0, 0)) rfl rfl rfl
theorem s_101_67 : Go d 101 67 L (.ref 35 :: st) (HP lx xs M) Q = Go d 101 70 L (.ref 38 :: st) (HP lx xs M) Q := go_gf rfl rfl (by decide) rfl
theorem s_101_70 : Go d 101 70 [o0, o1, o2, o3, some (.int x), o5, o6, o7] (st) h Q = Go d 101 72 [o0, o1, o2, o3, some (.int x), o5, o6, o7] (.int x :: st) h Q := go_lo (E := (.iload 4, 0, 0, 0)) rfl rfl rfl
theorem s_101_72 : Go d 101 72 L (.int x :: .ref 38 :: st) (HP lx xs M) Q = (ex_in x 6 = true ∧ Go d 101 73 L (.int (M 38 x.toNatClampNeg) :: st) (HP lx xs M) Q) := go_al rfl rfl
theorem s_101_73 : Go d 101 73 [o0, o1, o2, o3, o4, o5, some (.int x), o7] (st) h Q = Go d 101 75 [o0, o1, o2, o3, o4, o5, some (.int x), o7] (.int x :: st) h Q := go_lo (E := (.iload 6, 0, 0, 0)) rfl rfl rfl
theorem s_101_75 {a0 : Int32} {a1 : Int32} : Go (d + 1) 101 75 L [.int a1, .int a0] h Q = Go d 49 0 [some (.int a0), some (.int a1)] [] h (fun v h2 => Go (d + 1) 101 78 L (ap v []) h2 Q) := go_cx (E := (.invokestatic 70, 49, 1, 0)) (k' := 49) (as := [.int a0, .int a1]) rfl rfl rfl rfl rfl rfl rfl rfl
theorem s_101_78 : Go d 101 78 L (.int x :: st) h Q = (if x = 0 then Go d 101 94 L st h Q else Go d 101 81 L st h Q) := go_ifeq rfl
theorem s_101_81 : Go d 101 81 [o0, o1, o2, o3, o4, some (.int x), o6, o7] (st) h Q = Go d 101 83 [o0, o1, o2, o3, o4, some (.int x), o6, o7] (.int x :: st) h Q := go_lo (E := (.iload 5, 0, 0, 0)) rfl rfl rfl
theorem s_101_83 : Go d 101 83 [some (.ref r), o1, o2, o3, o4, o5, o6, o7] (st) h Q = Go d 101 84 [some (.ref r), o1, o2, o3, o4, o5, o6, o7] (.ref r :: st) h Q := go_lo (E := (.aload_n 0, 0, 0, 0)) rfl rfl rfl
theorem s_101_84 : Go d 101 84 [o0, o1, o2, o3, o4, o5, some (.int x), o7] (st) h Q = Go d 101 86 [o0, o1, o2, o3, o4, o5, some (.int x), o7] (.int x :: st) h Q := go_lo (E := (.iload 6, 0, 0, 0)) rfl rfl rfl
theorem s_101_86 : Go d 101 86 [o0, o1, some (.int x), o3, o4, o5, o6, o7] (st) h Q = Go d 101 87 [o0, o1, some (.int x), o3, o4, o5, o6, o7] (.int x :: st) h Q := go_lo (E := (.iload_n 2, 0, 0, 0)) rfl rfl rfl
theorem s_101_87 {a1 : Int32} {a2 : Int32} {z0 : Int32} : Go (d + 1) 101 87 L [.int a2, .int a1, .ref 35, .int z0] (HP lx xs M) Q = Go d 96 0 [some (.ref 35), some (.int a1), some (.int a2)] [] (HP lx xs M) (fun v h2 => Go (d + 1) 101 90 L (ap v [.int z0]) h2 Q) := go_cx (E := (.invokevirtual 88, 96, 0, 4)) (k' := 96) (as := [.ref 35, .int a1, .int a2]) rfl rfl rfl rfl rfl rfl rfl rfl
theorem s_101_90 : Go d 101 90 L (.int y :: .int x :: st) h Q = Go d 101 91 L (.int (x &&& y) :: st) h Q := go_op (E := (.iand, 0, 0, 0)) rfl rfl
theorem s_101_91 : Go d 101 91 L (st) h Q = Go d 101 95 L (st) h Q := go_goto rfl
theorem s_101_94 : Go d 101 94 L (st) h Q = Go d 101 95 L (.int (nI 0) :: st) h Q := go_ic rfl ci_i0
theorem s_101_95 : Go d 101 95 [o0, o1, o2, o3, o4, o5, o6, o7] (.int x :: st) h Q = Go d 101 97 [o0, o1, o2, o3, o4, o5, o6, some (.int x)] (st) h Q := go_lo (E := (.istore 7, 0, 0, 0)) rfl rfl rfl
theorem s_101_97 : Go d 101 97 [some (.ref r), o1, o2, o3, o4, o5, o6, o7] (st) h Q = Go d 101 98 [some (.ref r), o1, o2, o3, o4, o5, o6, o7] (.ref r :: st) h Q := go_lo (E := (.aload_n 0, 0, 0, 0)) rfl rfl rfl
theorem s_101_98 : Go d 101 98 L (.ref 35 :: st) (HP lx xs M) Q = Go d 101 101 L (.ref 39 :: st) (HP lx xs M) Q := go_gf rfl rfl (by decide) rfl
theorem s_101_101 : Go d 101 101 [o0, o1, o2, some (.int x), o4, o5, o6, o7] (st) h Q = Go d 101 102 [o0, o1, o2, some (.int x), o4, o5, o6, o7] (.int x :: st) h Q := go_lo (E := (.iload_n 3, 0, 0, 0)) rfl rfl rfl
theorem s_101_102 : Go d 101 102 [o0, o1, o2, o3, o4, o5, some (.int x), o7] (st) h Q = Go d 101 104 [o0, o1, o2, o3, o4, o5, some (.int x), o7] (.int x :: st) h Q := go_lo (E := (.iload 6, 0, 0, 0)) rfl rfl rfl
theorem s_101_104 : Go d 101 104 L (.int y :: .int x :: st) h Q = Go d 101 105 L (.int (x + y) :: st) h Q := go_op (E := (.iadd, 0, 0, 0)) rfl rfl
theorem s_101_105 : Go d 101 105 L (st) h Q = Go d 101 107 L (.int (nI 6) :: st) h Q := go_bi rfl ci_b6
theorem s_101_107 : Go d 101 107 L (.int y :: .int x :: st) h Q = Go d 101 108 L (.int (x * y) :: st) h Q := go_op (E := (.imul, 0, 0, 0)) rfl rfl
theorem s_101_108 : Go d 101 108 [o0, o1, o2, o3, some (.int x), o5, o6, o7] (st) h Q = Go d 101 110 [o0, o1, o2, o3, some (.int x), o5, o6, o7] (.int x :: st) h Q := go_lo (E := (.iload 4, 0, 0, 0)) rfl rfl rfl
theorem s_101_110 : Go d 101 110 L (.int y :: .int x :: st) h Q = Go d 101 111 L (.int (x + y) :: st) h Q := go_op (E := (.iadd, 0, 0, 0)) rfl rfl
theorem s_101_111 : Go d 101 111 [o0, o1, o2, o3, o4, o5, o6, some (.int x)] (st) h Q = Go d 101 113 [o0, o1, o2, o3, o4, o5, o6, some (.int x)] (.int x :: st) h Q := go_lo (E := (.iload 7, 0, 0, 0)) rfl rfl rfl
theorem s_101_113 : Go d 101 113 L (.int y :: .int x :: .ref 39 :: st) (HP lx xs M) Q = (ex_in x 468 = true ∧ Go d 101 114 L (st) (HP lx xs (up M 39 x.toNatClampNeg y)) Q) := go_as rfl rfl (by decide) hs_39
theorem s_101_114 : Go d 101 114 [o0, o1, o2, o3, o4, o5, o6, some (.int x)] (st) h Q = Go d 101 116 [o0, o1, o2, o3, o4, o5, o6, some (.int x)] (.int x :: st) h Q := go_lo (E := (.iload 7, 0, 0, 0)) rfl rfl rfl
theorem s_101_116 : Go d 101 116 L (.int x :: st) h Q = (if x = 0 then Go d 101 119 L st h Q else Go d 101 122 L st h Q) := go_ifne rfl
theorem s_101_119 : Go d 101 119 L (st) h Q = Go d 101 154 L (st) h Q := go_goto rfl
theorem s_101_122 : Go d 101 122 [some (.ref r), o1, o2, o3, o4, o5, o6, o7] (st) h Q = Go d 101 123 [some (.ref r), o1, o2, o3, o4, o5, o6, o7] (.ref r :: st) h Q := go_lo (E := (.aload_n 0, 0, 0, 0)) rfl rfl rfl
theorem s_101_123 : Go d 101 123 L (.ref 35 :: st) (HP lx xs M) Q = Go d 101 126 L (.ref 40 :: st) (HP lx xs M) Q := go_gf rfl rfl (by decide) rfl
theorem s_101_126 : Go d 101 126 [o0, o1, o2, some (.int x), o4, o5, o6, o7] (st) h Q = Go d 101 127 [o0, o1, o2, some (.int x), o4, o5, o6, o7] (.int x :: st) h Q := go_lo (E := (.iload_n 3, 0, 0, 0)) rfl rfl rfl
theorem s_101_127 : Go d 101 127 [o0, o1, o2, o3, o4, o5, some (.int x), o7] (st) h Q = Go d 101 129 [o0, o1, o2, o3, o4, o5, some (.int x), o7] (.int x :: st) h Q := go_lo (E := (.iload 6, 0, 0, 0)) rfl rfl rfl
theorem s_101_129 : Go d 101 129 L (.int y :: .int x :: st) h Q = Go d 101 130 L (.int (x + y) :: st) h Q := go_op (E := (.iadd, 0, 0, 0)) rfl rfl
theorem s_101_130 : Go d 101 130 L (.int x :: .ref r2 :: st) h Q = Go d 101 131 L (.int x :: .ref r2 :: .int x :: .ref r2 :: st) h Q := go_op (E := (.dup2, 0, 0, 0)) rfl rfl
theorem s_101_131 : Go d 101 131 L (.int x :: .ref 40 :: st) (HP lx xs M) Q = (ex_in x 78 = true ∧ Go d 101 132 L (.int (M 40 x.toNatClampNeg) :: st) (HP lx xs M) Q) := go_al rfl rfl
theorem s_101_132 : Go d 101 132 L (st) h Q = Go d 101 133 L (.int (nI 1) :: st) h Q := go_ic rfl ci_i1
theorem s_101_133 : Go d 101 133 [o0, o1, o2, o3, some (.int x), o5, o6, o7] (st) h Q = Go d 101 135 [o0, o1, o2, o3, some (.int x), o5, o6, o7] (.int x :: st) h Q := go_lo (E := (.iload 4, 0, 0, 0)) rfl rfl rfl
theorem s_101_135 : Go d 101 135 L (.int y :: .int x :: st) h Q = Go d 101 136 L (.int (x <<< (y &&& 31)) :: st) h Q := go_op (E := (.ishl, 0, 0, 0)) rfl rfl
theorem s_101_136 : Go d 101 136 L (.int y :: .int x :: st) h Q = Go d 101 137 L (.int (x ||| y) :: st) h Q := go_op (E := (.ior, 0, 0, 0)) rfl rfl
theorem s_101_137 : Go d 101 137 L (.int y :: .int x :: .ref 40 :: st) (HP lx xs M) Q = (ex_in x 78 = true ∧ Go d 101 138 L (st) (HP lx xs (up M 40 x.toNatClampNeg y)) Q) := go_as rfl rfl (by decide) hs_40
theorem s_101_138 : Go d 101 138 [some (.ref r), o1, o2, o3, o4, o5, o6, o7] (st) h Q = Go d 101 139 [some (.ref r), o1, o2, o3, o4, o5, o6, o7] (.ref r :: st) h Q := go_lo (E := (.aload_n 0, 0, 0, 0)) rfl rfl rfl
theorem s_101_139 : Go d 101 139 L (.ref 35 :: st) (HP lx xs M) Q = Go d 101 142 L (.ref 40 :: st) (HP lx xs M) Q := go_gf rfl rfl (by decide) rfl
theorem s_101_142 : Go d 101 142 [o0, o1, o2, some (.int x), o4, o5, o6, o7] (st) h Q = Go d 101 143 [o0, o1, o2, some (.int x), o4, o5, o6, o7] (.int x :: st) h Q := go_lo (E := (.iload_n 3, 0, 0, 0)) rfl rfl rfl
theorem s_101_143 : Go d 101 143 [o0, o1, o2, o3, some (.int x), o5, o6, o7] (st) h Q = Go d 101 145 [o0, o1, o2, o3, some (.int x), o5, o6, o7] (.int x :: st) h Q := go_lo (E := (.iload 4, 0, 0, 0)) rfl rfl rfl
theorem s_101_145 : Go d 101 145 L (.int y :: .int x :: st) h Q = Go d 101 146 L (.int (x + y) :: st) h Q := go_op (E := (.iadd, 0, 0, 0)) rfl rfl
theorem s_101_146 : Go d 101 146 L (.int x :: .ref r2 :: st) h Q = Go d 101 147 L (.int x :: .ref r2 :: .int x :: .ref r2 :: st) h Q := go_op (E := (.dup2, 0, 0, 0)) rfl rfl
theorem s_101_147 : Go d 101 147 L (.int x :: .ref 40 :: st) (HP lx xs M) Q = (ex_in x 78 = true ∧ Go d 101 148 L (.int (M 40 x.toNatClampNeg) :: st) (HP lx xs M) Q) := go_al rfl rfl
theorem s_101_148 : Go d 101 148 L (st) h Q = Go d 101 149 L (.int (nI 1) :: st) h Q := go_ic rfl ci_i1
theorem s_101_149 : Go d 101 149 [o0, o1, o2, o3, o4, o5, some (.int x), o7] (st) h Q = Go d 101 151 [o0, o1, o2, o3, o4, o5, some (.int x), o7] (.int x :: st) h Q := go_lo (E := (.iload 6, 0, 0, 0)) rfl rfl rfl
theorem s_101_151 : Go d 101 151 L (.int y :: .int x :: st) h Q = Go d 101 152 L (.int (x <<< (y &&& 31)) :: st) h Q := go_op (E := (.ishl, 0, 0, 0)) rfl rfl
theorem s_101_152 : Go d 101 152 L (.int y :: .int x :: st) h Q = Go d 101 153 L (.int (x ||| y) :: st) h Q := go_op (E := (.ior, 0, 0, 0)) rfl rfl
theorem s_101_153 : Go d 101 153 L (.int y :: .int x :: .ref 40 :: st) (HP lx xs M) Q = (ex_in x 78 = true ∧ Go d 101 154 L (st) (HP lx xs (up M 40 x.toNatClampNeg y)) Q) := go_as rfl rfl (by decide) hs_40
theorem s_101_154 : Go d 101 154 [o0, o1, o2, o3, o4, o5, some (.int x), o7] (st) h Q = Go d 101 157 [o0, o1, o2, o3, o4, o5, some (.int (x + nI 1)), o7] (st) h Q := (ci_i1 ▸ go_lo (E := (.iinc 6 1, 0, 0, 0)) rfl rfl rfl : _ = Go d 101 157 [o0, o1, o2, o3, o4, o5, some (.int (x + nI 1)), o7] (st) h Q)
set_option maxRecDepth 30000 in
theorem s_101_157 : Go d 101 157 L (st) h Q = Go d 101 57 L (st) h Q := go_goto rfl
set_option maxRecDepth 30000 in
theorem s_101_160 : Go d 101 160 [o0, o1, o2, o3, some (.int x), o5, o6, o7] (st) h Q = Go d 101 163 [o0, o1, o2, o3, some (.int (x + nI 1)), o5, o6, o7] (st) h Q := (ci_i1 ▸ go_lo (E := (.iinc 4 1, 0, 0, 0)) rfl rfl rfl : _ = Go d 101 163 [o0, o1, o2, o3, some (.int (x + nI 1)), o5, o6, o7] (st) h Q)
set_option maxRecDepth 30000 in
theorem s_101_163 : Go d 101 163 L (st) h Q = Go d 101 36 L (st) h Q := go_goto rfl
set_option maxRecDepth 30000 in
theorem s_101_166 : Go d 101 166 L [] h Q = Q none h := go_rv rfl rfl
theorem s_102_0 : Go d 102 0 [o0, o1, some (.int x), o3, o4, o5, o6, o7, o8, o9, o10] (st) h Q = Go d 102 1 [o0, o1, some (.int x), o3, o4, o5, o6, o7, o8, o9, o10] (.int x :: st) h Q := go_lo (E := (.iload_n 2, 0, 0, 0)) rfl rfl rfl
theorem s_102_1 {a0 : Int32} : Go (d + 1) 102 1 L [.int a0] h Q = Go d 12 0 [some (.int a0)] [] h (fun v h2 => Go (d + 1) 102 4 L (ap v []) h2 Q) := go_cx (E := (.invokestatic 59, 12, 0, 0)) (k' := 12) (as := [.int a0]) rfl rfl rfl rfl rfl rfl rfl rfl
theorem s_102_4 : Go d 102 4 L (st) h Q = Go d 102 5 L (.int (nI 2) :: st) h Q := go_ic rfl ci_i2
theorem s_102_5 : Go d 102 5 L (.int y :: .int x :: st) h Q = (¬ y = 0 ∧ Go d 102 6 L (.int (x / y) :: st) h Q) := go_idv rfl
theorem s_102_6 : Go d 102 6 [o0, some (.int x), o2, o3, o4, o5, o6, o7, o8, o9, o10] (st) h Q = Go d 102 7 [o0, some (.int x), o2, o3, o4, o5, o6, o7, o8, o9, o10] (.int x :: st) h Q := go_lo (E := (.iload_n 1, 0, 0, 0)) rfl rfl rfl
theorem s_102_7 : Go d 102 7 L (st) h Q = Go d 102 8 L (.int (nI 1) :: st) h Q := go_ic rfl ci_i1
theorem s_102_8 : Go d 102 8 L (.int y :: .int x :: st) h Q = Go d 102 9 L (.int (x - y) :: st) h Q := go_op (E := (.isub, 0, 0, 0)) rfl rfl
theorem s_102_9 : Go d 102 9 [some (.ref r), o1, o2, o3, o4, o5, o6, o7, o8, o9, o10] (st) h Q = Go d 102 10 [some (.ref r), o1, o2, o3, o4, o5, o6, o7, o8, o9, o10] (.ref r :: st) h Q := go_lo (E := (.aload_n 0, 0, 0, 0)) rfl rfl rfl
theorem s_102_10 : Go d 102 10 L (.ref 35 :: st) (HP lx xs M) Q = Go d 102 13 L (.int (M 35 6) :: st) (HP lx xs M) Q := go_gf rfl rfl (by decide) rfl
theorem s_102_13 : Go d 102 13 L (st) h Q = Go d 102 14 L (.int (nI 2) :: st) h Q := go_ic rfl ci_i2
theorem s_102_14 : Go d 102 14 L (.int y :: .int x :: st) h Q = (¬ y = 0 ∧ Go d 102 15 L (.int (x / y) :: st) h Q) := go_idv rfl
theorem s_102_15 : Go d 102 15 L (.int y :: .int x :: st) h Q = Go d 102 16 L (.int (x * y) :: st) h Q := go_op (E := (.imul, 0, 0, 0)) rfl rfl
theorem s_102_16 : Go d 102 16 L (.int y :: .int x :: st) h Q = Go d 102 17 L (.int (x + y) :: st) h Q := go_op (E := (.iadd, 0, 0, 0)) rfl rfl
theorem s_102_17 : Go d 102 17 [o0, o1, o2, o3, o4, o5, o6, o7, o8, o9, o10] (.int x :: st) h Q = Go d 102 19 [o0, o1, o2, o3, o4, some (.int x), o6, o7, o8, o9, o10] (st) h Q := go_lo (E := (.istore 5, 0, 0, 0)) rfl rfl rfl
theorem s_102_19 : Go d 102 19 [some (.ref r), o1, o2, o3, o4, o5, o6, o7, o8, o9, o10] (st) h Q = Go d 102 20 [some (.ref r), o1, o2, o3, o4, o5, o6, o7, o8, o9, o10] (.ref r :: st) h Q := go_lo (E := (.aload_n 0, 0, 0, 0)) rfl rfl rfl
theorem s_102_20 : Go d 102 20 [o0, o1, o2, o3, some (.int x), o5, o6, o7, o8, o9, o10] (st) h Q = Go d 102 22 [o0, o1, o2, o3, some (.int x), o5, o6, o7, o8, o9, o10] (.int x :: st) h Q := go_lo (E := (.iload 4, 0, 0, 0)) rfl rfl rfl
theorem s_102_22 {a1 : Int32} : Go (d + 1) 102 22 L [.int a1, .ref 35] (HP lx xs M) Q = Go d 99 0 [some (.ref 35), some (.int a1)] [] (HP lx xs M) (fun v h2 => Go (d + 1) 102 25 L (ap v []) h2 Q) := go_cx (E := (.invokevirtual 94, 99, 0, 4)) (k' := 99) (as := [.ref 35, .int a1]) rfl rfl rfl rfl rfl rfl rfl rfl
theorem s_102_25 : Go d 102 25 [o0, o1, o2, o3, o4, some (.int x), o6, o7, o8, o9, o10] (st) h Q = Go d 102 27 [o0, o1, o2, o3, o4, some (.int x), o6, o7, o8, o9, o10] (.int x :: st) h Q := go_lo (E := (.iload 5, 0, 0, 0)) rfl rfl rfl
theorem s_102_27 : Go d 102 27 L (.int y :: .int x :: st) h Q = (if y < x then Go d 102 30 L st h Q else Go d 102 32 L st h Q) := go_icle rfl
theorem s_102_30 : Go d 102 30 L (st) h Q = Go d 102 31 L (.int (nI 0) :: st) h Q := go_ic rfl ci_i0
theorem s_102_31_0 : Go d 102 31 L [.int (nI 0)] h Q = Q (some (.int (nI 0))) h := go_rz rfl rfl (by decide)
theorem s_102_31_1 : Go d 102 31 L [.int (nI 1)] h Q = Q (some (.int (nI 1))) h := go_rz rfl rfl (by decide)
theorem s_102_32 : Go d 102 32 [o0, o1, some (.int x), o3, o4, o5, o6, o7, o8, o9, o10] (st) h Q = Go d 102 33 [o0, o1, some (.int x), o3, o4, o5, o6, o7, o8, o9, o10] (.int x :: st) h Q := go_lo (E := (.iload_n 2, 0, 0, 0)) rfl rfl rfl
theorem s_102_33 : Go d 102 33 L (.int x :: st) h Q = (if x = 0 then Go d 102 36 L st h Q else Go d 102 46 L st h Q) := go_ifne rfl
theorem s_102_36 : Go d 102 36 [some (.ref r), o1, o2, o3, o4, o5, o6, o7, o8, o9, o10] (st) h Q = Go d 102 37 [some (.ref r), o1, o2, o3, o4, o5, o6, o7, o8, o9, o10] (.ref r :: st) h Q := go_lo (E := (.aload_n 0, 0, 0, 0)) rfl rfl rfl
theorem s_102_37 : Go d 102 37 [o0, some (.int x), o2, o3, o4, o5, o6, o7, o8, o9, o10] (st) h Q = Go d 102 38 [o0, some (.int x), o2, o3, o4, o5, o6, o7, o8, o9, o10] (.int x :: st) h Q := go_lo (E := (.iload_n 1, 0, 0, 0)) rfl rfl rfl
theorem s_102_38 : Go d 102 38 L (st) h Q = Go d 102 39 L (.int (nI 1) :: st) h Q := go_ic rfl ci_i1
theorem s_102_39 : Go d 102 39 L (.int y :: .int x :: st) h Q = Go d 102 40 L (.int (x - y) :: st) h Q := go_op (E := (.isub, 0, 0, 0)) rfl rfl
theorem s_102_40 : Go d 102 40 [o0, o1, o2, o3, some (.int x), o5, o6, o7, o8, o9, o10] (st) h Q = Go d 102 42 [o0, o1, o2, o3, some (.int x), o5, o6, o7, o8, o9, o10] (.int x :: st) h Q := go_lo (E := (.iload 4, 0, 0, 0)) rfl rfl rfl
theorem s_102_42 {a1 : Int32} {a2 : Int32} : Go (d + 1) 102 42 L [.int a2, .int a1, .ref 35] (HP lx xs M) Q = Go d 100 0 [some (.ref 35), some (.int a1), some (.int a2)] [] (HP lx xs M) (fun v h2 => Go (d + 1) 102 45 L (ap v []) h2 Q) := go_cx (E := (.invokevirtual 49, 100, 0, 4)) (k' := 100) (as := [.ref 35, .int a1, .int a2]) rfl rfl rfl rfl rfl rfl rfl rfl
theorem s_102_45_0 : Go d 102 45 L [.int (nI 0)] h Q = Q (some (.int (nI 0))) h := go_rz rfl rfl (by decide)
theorem s_102_45_1 : Go d 102 45 L [.int (nI 1)] h Q = Q (some (.int (nI 1))) h := go_rz rfl rfl (by decide)
theorem s_102_46 : Go d 102 46 [o0, o1, some (.int x), o3, o4, o5, o6, o7, o8, o9, o10] (st) h Q = Go d 102 47 [o0, o1, some (.int x), o3, o4, o5, o6, o7, o8, o9, o10] (.int x :: st) h Q := go_lo (E := (.iload_n 2, 0, 0, 0)) rfl rfl rfl
theorem s_102_47 {a0 : Int32} : Go (d + 1) 102 47 L [.int a0] h Q = Go d 104 0 [some (.int a0), none] [] h (fun v h2 => Go (d + 1) 102 50 L (ap v []) h2 Q) := go_cx (E := (.invokestatic 105, 104, 0, 0)) (k' := 104) (as := [.int a0]) rfl rfl rfl rfl rfl rfl rfl rfl
theorem s_102_50 : Go d 102 50 [o0, o1, o2, o3, o4, o5, o6, o7, o8, o9, o10] (.int x :: st) h Q = Go d 102 52 [o0, o1, o2, o3, o4, o5, some (.int x), o7, o8, o9, o10] (st) h Q := go_lo (E := (.istore 6, 0, 0, 0)) rfl rfl rfl
theorem s_102_52 : Go d 102 52 [o0, some (.int x), o2, o3, o4, o5, o6, o7, o8, o9, o10] (st) h Q = Go d 102 53 [o0, some (.int x), o2, o3, o4, o5, o6, o7, o8, o9, o10] (.int x :: st) h Q := go_lo (E := (.iload_n 1, 0, 0, 0)) rfl rfl rfl
theorem s_102_53 : Go d 102 53 L (st) h Q = Go d 102 55 L (.int (nI 6) :: st) h Q := go_bi rfl ci_b6
theorem s_102_55 : Go d 102 55 L (.int y :: .int x :: st) h Q = Go d 102 56 L (.int (x * y) :: st) h Q := go_op (E := (.imul, 0, 0, 0)) rfl rfl
theorem s_102_56 : Go d 102 56 [o0, o1, o2, o3, o4, o5, o6, o7, o8, o9, o10] (.int x :: st) h Q = Go d 102 58 [o0, o1, o2, o3, o4, o5, o6, some (.int x), o8, o9, o10] (st) h Q := go_lo (E := (.istore 7, 0, 0, 0)) rfl rfl rfl
theorem s_102_58 : Go d 102 58 [o0, o1, o2, o3, o4, o5, some (.int x), o7, o8, o9, o10] (st) h Q = Go d 102 60 [o0, o1, o2, o3, o4, o5, some (.int x), o7, o8, o9, o10] (.int x :: st) h Q := go_lo (E := (.iload 6, 0, 0, 0)) rfl rfl rfl
theorem s_102_60 : Go d 102 60 L (st) h Q = Go d 102 61 L (.int (nI 1) :: st) h Q := go_ic rfl ci_i1
theorem s_102_61 : Go d 102 61 L (.int y :: .int x :: st) h Q = Go d 102 62 L (.int (x + y) :: st) h Q := go_op (E := (.iadd, 0, 0, 0)) rfl rfl
theorem s_102_62 : Go d 102 62 [o0, o1, o2, o3, o4, o5, o6, o7, o8, o9, o10] (.int x :: st) h Q = Go d 102 64 [o0, o1, o2, o3, o4, o5, o6, o7, some (.int x), o9, o10] (st) h Q := go_lo (E := (.istore 8, 0, 0, 0)) rfl rfl rfl
theorem s_102_64 : Go d 102 64 [o0, o1, o2, o3, o4, o5, o6, o7, some (.int x), o9, o10] (st) h Q = Go d 102 66 [o0, o1, o2, o3, o4, o5, o6, o7, some (.int x), o9, o10] (.int x :: st) h Q := go_lo (E := (.iload 8, 0, 0, 0)) rfl rfl rfl
theorem s_102_66 : Go d 102 66 [some (.ref r), o1, o2, o3, o4, o5, o6, o7, o8, o9, o10] (st) h Q = Go d 102 67 [some (.ref r), o1, o2, o3, o4, o5, o6, o7, o8, o9, o10] (.ref r :: st) h Q := go_lo (E := (.aload_n 0, 0, 0, 0)) rfl rfl rfl
theorem s_102_67 : Go d 102 67 L (.ref 35 :: st) (HP lx xs M) Q = Go d 102 70 L (.int (M 35 6) :: st) (HP lx xs M) Q := go_gf rfl rfl (by decide) rfl
theorem s_102_70 : Go d 102 70 L (.int y :: .int x :: st) h Q = (if x < y then Go d 102 73 L st h Q else Go d 102 203 L st h Q) := go_icge rfl
theorem s_102_73 : Go d 102 73 [o0, o1, some (.int x), o3, o4, o5, o6, o7, o8, o9, o10] (st) h Q = Go d 102 74 [o0, o1, some (.int x), o3, o4, o5, o6, o7, o8, o9, o10] (.int x :: st) h Q := go_lo (E := (.iload_n 2, 0, 0, 0)) rfl rfl rfl
theorem s_102_74 : Go d 102 74 [some (.ref r), o1, o2, o3, o4, o5, o6, o7, o8, o9, o10] (st) h Q = Go d 102 75 [some (.ref r), o1, o2, o3, o4, o5, o6, o7, o8, o9, o10] (.ref r :: st) h Q := go_lo (E := (.aload_n 0, 0, 0, 0)) rfl rfl rfl
theorem s_102_75 : Go d 102 75 L (.ref 35 :: st) (HP lx xs M) Q = Go d 102 78 L (.ref 40 :: st) (HP lx xs M) Q := go_gf rfl rfl (by decide) rfl
theorem s_102_78 : Go d 102 78 [o0, o1, o2, o3, o4, o5, o6, some (.int x), o8, o9, o10] (st) h Q = Go d 102 80 [o0, o1, o2, o3, o4, o5, o6, some (.int x), o8, o9, o10] (.int x :: st) h Q := go_lo (E := (.iload 7, 0, 0, 0)) rfl rfl rfl
theorem s_102_80 : Go d 102 80 [o0, o1, o2, o3, o4, o5, some (.int x), o7, o8, o9, o10] (st) h Q = Go d 102 82 [o0, o1, o2, o3, o4, o5, some (.int x), o7, o8, o9, o10] (.int x :: st) h Q := go_lo (E := (.iload 6, 0, 0, 0)) rfl rfl rfl
theorem s_102_82 : Go d 102 82 L (.int y :: .int x :: st) h Q = Go d 102 83 L (.int (x + y) :: st) h Q := go_op (E := (.iadd, 0, 0, 0)) rfl rfl
theorem s_102_83 : Go d 102 83 L (.int x :: .ref 40 :: st) (HP lx xs M) Q = (ex_in x 78 = true ∧ Go d 102 84 L (.int (M 40 x.toNatClampNeg) :: st) (HP lx xs M) Q) := go_al rfl rfl
theorem s_102_84 : Go d 102 84 L (.int y :: .int x :: st) h Q = Go d 102 85 L (.int (x &&& y) :: st) h Q := go_op (E := (.iand, 0, 0, 0)) rfl rfl
theorem s_102_85 : Go d 102 85 [o0, o1, o2, o3, o4, o5, o6, o7, some (.int x), o9, o10] (st) h Q = Go d 102 87 [o0, o1, o2, o3, o4, o5, o6, o7, some (.int x), o9, o10] (.int x :: st) h Q := go_lo (E := (.iload 8, 0, 0, 0)) rfl rfl rfl
theorem s_102_87 {a0 : Int32} {a1 : Int32} : Go (d + 1) 102 87 L [.int a1, .int a0] h Q = Go d 49 0 [some (.int a0), some (.int a1)] [] h (fun v h2 => Go (d + 1) 102 90 L (ap v []) h2 Q) := go_cx (E := (.invokestatic 70, 49, 1, 0)) (k' := 49) (as := [.int a0, .int a1]) rfl rfl rfl rfl rfl rfl rfl rfl
theorem s_102_90 : Go d 102 90 L (.int x :: st) h Q = (if x = 0 then Go d 102 93 L st h Q else Go d 102 96 L st h Q) := go_ifne rfl
theorem s_102_93 : Go d 102 93 L (st) h Q = Go d 102 197 L (st) h Q := go_goto rfl
theorem s_102_96 : Go d 102 96 [o0, o1, some (.int x), o3, o4, o5, o6, o7, o8, o9, o10] (st) h Q = Go d 102 97 [o0, o1, some (.int x), o3, o4, o5, o6, o7, o8, o9, o10] (.int x :: st) h Q := go_lo (E := (.iload_n 2, 0, 0, 0)) rfl rfl rfl
theorem s_102_97 : Go d 102 97 L (st) h Q = Go d 102 98 L (.int (nI 1) :: st) h Q := go_ic rfl ci_i1
theorem s_102_98 : Go d 102 98 [o0, o1, o2, o3, o4, o5, some (.int x), o7, o8, o9, o10] (st) h Q = Go d 102 100 [o0, o1, o2, o3, o4, o5, some (.int x), o7, o8, o9, o10] (.int x :: st) h Q := go_lo (E := (.iload 6, 0, 0, 0)) rfl rfl rfl
theorem s_102_100 : Go d 102 100 L (.int y :: .int x :: st) h Q = Go d 102 101 L (.int (x <<< (y &&& 31)) :: st) h Q := go_op (E := (.ishl, 0, 0, 0)) rfl rfl
theorem s_102_101 : Go d 102 101 L (st) h Q = Go d 102 102 L (.int (nI 1) :: st) h Q := go_ic rfl ci_i1
theorem s_102_102 : Go d 102 102 [o0, o1, o2, o3, o4, o5, o6, o7, some (.int x), o9, o10] (st) h Q = Go d 102 104 [o0, o1, o2, o3, o4, o5, o6, o7, some (.int x), o9, o10] (.int x :: st) h Q := go_lo (E := (.iload 8, 0, 0, 0)) rfl rfl rfl
theorem s_102_104 : Go d 102 104 L (.int y :: .int x :: st) h Q = Go d 102 105 L (.int (x <<< (y &&& 31)) :: st) h Q := go_op (E := (.ishl, 0, 0, 0)) rfl rfl
theorem s_102_105 : Go d 102 105 L (.int y :: .int x :: st) h Q = Go d 102 106 L (.int (x ||| y) :: st) h Q := go_op (E := (.ior, 0, 0, 0)) rfl rfl
theorem s_102_106 : Go d 102 106 L (st) h Q = Go d 102 107 L (.int (-1) :: st) h Q := go_ic rfl ci_im1
theorem s_102_107 : Go d 102 107 L (.int y :: .int x :: st) h Q = Go d 102 108 L (.int (x ^^^ y) :: st) h Q := go_op (E := (.ixor, 0, 0, 0)) rfl rfl
theorem s_102_108 : Go d 102 108 L (.int y :: .int x :: st) h Q = Go d 102 109 L (.int (x &&& y) :: st) h Q := go_op (E := (.iand, 0, 0, 0)) rfl rfl
theorem s_102_109 : Go d 102 109 [o0, o1, o2, o3, o4, o5, o6, o7, o8, o9, o10] (.int x :: st) h Q = Go d 102 111 [o0, o1, o2, o3, o4, o5, o6, o7, o8, some (.int x), o10] (st) h Q := go_lo (E := (.istore 9, 0, 0, 0)) rfl rfl rfl
theorem s_102_111 : Go d 102 111 [some (.ref r), o1, o2, o3, o4, o5, o6, o7, o8, o9, o10] (st) h Q = Go d 102 112 [some (.ref r), o1, o2, o3, o4, o5, o6, o7, o8, o9, o10] (.ref r :: st) h Q := go_lo (E := (.aload_n 0, 0, 0, 0)) rfl rfl rfl
theorem s_102_112 : Go d 102 112 L (.ref 35 :: st) (HP lx xs M) Q = Go d 102 115 L (.ref 39 :: st) (HP lx xs M) Q := go_gf rfl rfl (by decide) rfl
theorem s_102_115 : Go d 102 115 [o0, o1, o2, o3, o4, o5, o6, some (.int x), o8, o9, o10] (st) h Q = Go d 102 117 [o0, o1, o2, o3, o4, o5, o6, some (.int x), o8, o9, o10] (.int x :: st) h Q := go_lo (E := (.iload 7, 0, 0, 0)) rfl rfl rfl
theorem s_102_117 : Go d 102 117 [o0, o1, o2, o3, o4, o5, some (.int x), o7, o8, o9, o10] (st) h Q = Go d 102 119 [o0, o1, o2, o3, o4, o5, some (.int x), o7, o8, o9, o10] (.int x :: st) h Q := go_lo (E := (.iload 6, 0, 0, 0)) rfl rfl rfl
theorem s_102_119 : Go d 102 119 L (.int y :: .int x :: st) h Q = Go d 102 120 L (.int (x + y) :: st) h Q := go_op (E := (.iadd, 0, 0, 0)) rfl rfl
theorem s_102_120 : Go d 102 120 L (st) h Q = Go d 102 122 L (.int (nI 6) :: st) h Q := go_bi rfl ci_b6
theorem s_102_122 : Go d 102 122 L (.int y :: .int x :: st) h Q = Go d 102 123 L (.int (x * y) :: st) h Q := go_op (E := (.imul, 0, 0, 0)) rfl rfl
theorem s_102_123 : Go d 102 123 [o0, o1, o2, o3, o4, o5, o6, o7, some (.int x), o9, o10] (st) h Q = Go d 102 125 [o0, o1, o2, o3, o4, o5, o6, o7, some (.int x), o9, o10] (.int x :: st) h Q := go_lo (E := (.iload 8, 0, 0, 0)) rfl rfl rfl
theorem s_102_125 : Go d 102 125 L (.int y :: .int x :: st) h Q = Go d 102 126 L (.int (x + y) :: st) h Q := go_op (E := (.iadd, 0, 0, 0)) rfl rfl
theorem s_102_126 : Go d 102 126 L (.int x :: .ref 39 :: st) (HP lx xs M) Q = (ex_in x 468 = true ∧ Go d 102 127 L (.int (M 39 x.toNatClampNeg) :: st) (HP lx xs M) Q) := go_al rfl rfl
theorem s_102_127 : Go d 102 127 [o0, o1, o2, o3, o4, o5, o6, o7, o8, o9, o10] (.int x :: st) h Q = Go d 102 129 [o0, o1, o2, o3, o4, o5, o6, o7, o8, o9, some (.int x)] (st) h Q := go_lo (E := (.istore 10, 0, 0, 0)) rfl rfl rfl
theorem s_102_129 : Go d 102 129 [some (.ref r), o1, o2, o3, o4, o5, o6, o7, o8, o9, o10] (st) h Q = Go d 102 130 [some (.ref r), o1, o2, o3, o4, o5, o6, o7, o8, o9, o10] (.ref r :: st) h Q := go_lo (E := (.aload_n 0, 0, 0, 0)) rfl rfl rfl
theorem s_102_130 : Go d 102 130 [o0, some (.int x), o2, o3, o4, o5, o6, o7, o8, o9, o10] (st) h Q = Go d 102 131 [o0, some (.int x), o2, o3, o4, o5, o6, o7, o8, o9, o10] (.int x :: st) h Q := go_lo (E := (.iload_n 1, 0, 0, 0)) rfl rfl rfl
theorem s_102_131 : Go d 102 131 [o0, o1, o2, o3, o4, o5, o6, o7, o8, some (.int x), o10] (st) h Q = Go d 102 133 [o0, o1, o2, o3, o4, o5, o6, o7, o8, some (.int x), o10] (.int x :: st) h Q := go_lo (E := (.iload 9, 0, 0, 0)) rfl rfl rfl
theorem s_102_133 : Go d 102 133 [o0, o1, o2, some (.int x), o4, o5, o6, o7, o8, o9, o10] (st) h Q = Go d 102 134 [o0, o1, o2, some (.int x), o4, o5, o6, o7, o8, o9, o10] (.int x :: st) h Q := go_lo (E := (.iload_n 3, 0, 0, 0)) rfl rfl rfl
theorem s_102_134 : Go d 102 134 [o0, o1, o2, o3, some (.int x), o5, o6, o7, o8, o9, o10] (st) h Q = Go d 102 136 [o0, o1, o2, o3, some (.int x), o5, o6, o7, o8, o9, o10] (.int x :: st) h Q := go_lo (E := (.iload 4, 0, 0, 0)) rfl rfl rfl
theorem s_102_136 : Go d 102 136 [o0, o1, o2, o3, o4, o5, o6, o7, o8, o9, some (.int x)] (st) h Q = Go d 102 138 [o0, o1, o2, o3, o4, o5, o6, o7, o8, o9, some (.int x)] (.int x :: st) h Q := go_lo (E := (.iload 10, 0, 0, 0)) rfl rfl rfl
theorem s_102_138 : Go d 102 138 [o0, o1, o2, o3, o4, o5, o6, o7, some (.int x), o9, o10] (st) h Q = Go d 102 140 [o0, o1, o2, o3, o4, o5, o6, o7, some (.int x), o9, o10] (.int x :: st) h Q := go_lo (E := (.iload 8, 0, 0, 0)) rfl rfl rfl
theorem s_102_140 : Go d 102 140 [some (.ref r), o1, o2, o3, o4, o5, o6, o7, o8, o9, o10] (st) h Q = Go d 102 141 [some (.ref r), o1, o2, o3, o4, o5, o6, o7, o8, o9, o10] (.ref r :: st) h Q := go_lo (E := (.aload_n 0, 0, 0, 0)) rfl rfl rfl
theorem s_102_141 : Go d 102 141 L (.ref 35 :: st) (HP lx xs M) Q = Go d 102 144 L (.int (M 35 7) :: st) (HP lx xs M) Q := go_gf rfl rfl (by decide) rfl
theorem s_102_144 : Go d 102 144 L (.int y :: .int x :: st) h Q = Go d 102 145 L (.int (x * y) :: st) h Q := go_op (E := (.imul, 0, 0, 0)) rfl rfl
theorem s_102_145 : Go d 102 145 L (.int y :: .int x :: st) h Q = Go d 102 146 L (.int (x <<< (y &&& 31)) :: st) h Q := go_op (E := (.ishl, 0, 0, 0)) rfl rfl
set_option maxRecDepth 30000 in
theorem s_102_146 {a1 : Int32} {a2 : Int32} {a3 : Int32} {a4 : Int32} {a5 : Int32} : Go (d + 1) 102 146 L [.int a5, .int a4, .int a3, .int a2, .int a1, .ref 35] (HP lx xs M) Q = Go d 103 0 [some (.ref 35), some (.int a1), some (.int a2), some (.int a3), some (.int a4), some (.int a5), none] [] (HP lx xs M) (fun v h2 => Go (d + 1) 102 149 L (ap v []) h2 Q) := go_cx (E := (.invokevirtual 108, 103, 0, 4)) (k' := 103) (as := [.ref 35, .int a1, .int a2, .int a3, .int a4, .int a5]) rfl rfl rfl rfl rfl rfl rfl rfl
set_option maxRecDepth 30000 in
theorem s_102_149 : Go d 102 149 L (.int x :: st) h Q = (if x = 0 then Go d 102 154 L st h Q else Go d 102 152 L st h Q) := go_ifeq rfl
set_option maxRecDepth 30000 in
theorem s_102_152 : Go d 102 152 L (st) h Q = Go d 102 153 L (.int (nI 1) :: st) h Q := go_ic rfl ci_i1
set_option maxRecDepth 30000 in
theorem s_102_153_0 : Go d 102 153 L [.int (nI 0)] h Q = Q (some (.int (nI 0))) h := go_rz rfl rfl (by decide)
set_option maxRecDepth 30000 in
theorem s_102_153_1 : Go d 102 153 L [.int (nI 1)] h Q = Q (some (.int (nI 1))) h := go_rz rfl rfl (by decide)
set_option maxRecDepth 30000 in
theorem s_102_154 : Go d 102 154 [some (.ref r), o1, o2, o3, o4, o5, o6, o7, o8, o9, o10] (st) h Q = Go d 102 155 [some (.ref r), o1, o2, o3, o4, o5, o6, o7, o8, o9, o10] (.ref r :: st) h Q := go_lo (E := (.aload_n 0, 0, 0, 0)) rfl rfl rfl
set_option maxRecDepth 30000 in
theorem s_102_155 : Go d 102 155 L (.ref 35 :: st) (HP lx xs M) Q = Go d 102 158 L (.ref 39 :: st) (HP lx xs M) Q := go_gf rfl rfl (by decide) rfl
set_option maxRecDepth 30000 in
theorem s_102_158 : Go d 102 158 [o0, o1, o2, o3, o4, o5, o6, some (.int x), o8, o9, o10] (st) h Q = Go d 102 160 [o0, o1, o2, o3, o4, o5, o6, some (.int x), o8, o9, o10] (.int x :: st) h Q := go_lo (E := (.iload 7, 0, 0, 0)) rfl rfl rfl
set_option maxRecDepth 30000 in
theorem s_102_160 : Go d 102 160 [o0, o1, o2, o3, o4, o5, o6, o7, some (.int x), o9, o10] (st) h Q = Go d 102 162 [o0, o1, o2, o3, o4, o5, o6, o7, some (.int x), o9, o10] (.int x :: st) h Q := go_lo (E := (.iload 8, 0, 0, 0)) rfl rfl rfl
set_option maxRecDepth 30000 in
theorem s_102_162 : Go d 102 162 L (.int y :: .int x :: st) h Q = Go d 102 163 L (.int (x + y) :: st) h Q := go_op (E := (.iadd, 0, 0, 0)) rfl rfl
set_option maxRecDepth 30000 in
theorem s_102_163 : Go d 102 163 L (st) h Q = Go d 102 165 L (.int (nI 6) :: st) h Q := go_bi rfl ci_b6
set_option maxRecDepth 30000 in
theorem s_102_165 : Go d 102 165 L (.int y :: .int x :: st) h Q = Go d 102 166 L (.int (x * y) :: st) h Q := go_op (E := (.imul, 0, 0, 0)) rfl rfl
set_option maxRecDepth 30000 in
theorem s_102_166 : Go d 102 166 [o0, o1, o2, o3, o4, o5, some (.int x), o7, o8, o9, o10] (st) h Q = Go d 102 168 [o0, o1, o2, o3, o4, o5, some (.int x), o7, o8, o9, o10] (.int x :: st) h Q := go_lo (E := (.iload 6, 0, 0, 0)) rfl rfl rfl
set_option maxRecDepth 30000 in
theorem s_102_168 : Go d 102 168 L (.int y :: .int x :: st) h Q = Go d 102 169 L (.int (x + y) :: st) h Q := go_op (E := (.iadd, 0, 0, 0)) rfl rfl
set_option maxRecDepth 30000 in
theorem s_102_169 : Go d 102 169 L (.int x :: .ref 39 :: st) (HP lx xs M) Q = (ex_in x 468 = true ∧ Go d 102 170 L (.int (M 39 x.toNatClampNeg) :: st) (HP lx xs M) Q) := go_al rfl rfl
set_option maxRecDepth 30000 in
theorem s_102_170 : Go d 102 170 [o0, o1, o2, o3, o4, o5, o6, o7, o8, o9, o10] (.int x :: st) h Q = Go d 102 172 [o0, o1, o2, o3, o4, o5, o6, o7, o8, o9, some (.int x)] (st) h Q := go_lo (E := (.istore 10, 0, 0, 0)) rfl rfl rfl
set_option maxRecDepth 30000 in
theorem s_102_172 : Go d 102 172 [some (.ref r), o1, o2, o3, o4, o5, o6, o7, o8, o9, o10] (st) h Q = Go d 102 173 [some (.ref r), o1, o2, o3, o4, o5, o6, o7, o8, o9, o10] (.ref r :: st) h Q := go_lo (E := (.aload_n 0, 0, 0, 0)) rfl rfl rfl
set_option maxRecDepth 30000 in
theorem s_102_173 : Go d 102 173 [o0, some (.int x), o2, o3, o4, o5, o6, o7, o8, o9, o10] (st) h Q = Go d 102 174 [o0, some (.int x), o2, o3, o4, o5, o6, o7, o8, o9, o10] (.int x :: st) h Q := go_lo (E := (.iload_n 1, 0, 0, 0)) rfl rfl rfl
set_option maxRecDepth 30000 in
theorem s_102_174 : Go d 102 174 [o0, o1, o2, o3, o4, o5, o6, o7, o8, some (.int x), o10] (st) h Q = Go d 102 176 [o0, o1, o2, o3, o4, o5, o6, o7, o8, some (.int x), o10] (.int x :: st) h Q := go_lo (E := (.iload 9, 0, 0, 0)) rfl rfl rfl
set_option maxRecDepth 30000 in
theorem s_102_176 : Go d 102 176 [o0, o1, o2, some (.int x), o4, o5, o6, o7, o8, o9, o10] (st) h Q = Go d 102 177 [o0, o1, o2, some (.int x), o4, o5, o6, o7, o8, o9, o10] (.int x :: st) h Q := go_lo (E := (.iload_n 3, 0, 0, 0)) rfl rfl rfl
set_option maxRecDepth 30000 in
theorem s_102_177 : Go d 102 177 [o0, o1, o2, o3, some (.int x), o5, o6, o7, o8, o9, o10] (st) h Q = Go d 102 179 [o0, o1, o2, o3, some (.int x), o5, o6, o7, o8, o9, o10] (.int x :: st) h Q := go_lo (E := (.iload 4, 0, 0, 0)) rfl rfl rfl
set_option maxRecDepth 30000 in
theorem s_102_179 : Go d 102 179 [o0, o1, o2, o3, o4, o5, o6, o7, o8, o9, some (.int x)] (st) h Q = Go d 102 181 [o0, o1, o2, o3, o4, o5, o6, o7, o8, o9, some (.int x)] (.int x :: st) h Q := go_lo (E := (.iload 10, 0, 0, 0)) rfl rfl rfl
set_option maxRecDepth 30000 in
theorem s_102_181 : Go d 102 181 [o0, o1, o2, o3, o4, o5, some (.int x), o7, o8, o9, o10] (st) h Q = Go d 102 183 [o0, o1, o2, o3, o4, o5, some (.int x), o7, o8, o9, o10] (.int x :: st) h Q := go_lo (E := (.iload 6, 0, 0, 0)) rfl rfl rfl
set_option maxRecDepth 30000 in
theorem s_102_183 : Go d 102 183 [some (.ref r), o1, o2, o3, o4, o5, o6, o7, o8, o9, o10] (st) h Q = Go d 102 184 [some (.ref r), o1, o2, o3, o4, o5, o6, o7, o8, o9, o10] (.ref r :: st) h Q := go_lo (E := (.aload_n 0, 0, 0, 0)) rfl rfl rfl
set_option maxRecDepth 30000 in
theorem s_102_184 : Go d 102 184 L (.ref 35 :: st) (HP lx xs M) Q = Go d 102 187 L (.int (M 35 7) :: st) (HP lx xs M) Q := go_gf rfl rfl (by decide) rfl
set_option maxRecDepth 30000 in
theorem s_102_187 : Go d 102 187 L (.int y :: .int x :: st) h Q = Go d 102 188 L (.int (x * y) :: st) h Q := go_op (E := (.imul, 0, 0, 0)) rfl rfl
set_option maxRecDepth 30000 in
theorem s_102_188 : Go d 102 188 L (.int y :: .int x :: st) h Q = Go d 102 189 L (.int (x <<< (y &&& 31)) :: st) h Q := go_op (E := (.ishl, 0, 0, 0)) rfl rfl
set_option maxRecDepth 30000 in
theorem s_102_189 {a1 : Int32} {a2 : Int32} {a3 : Int32} {a4 : Int32} {a5 : Int32} : Go (d + 1) 102 189 L [.int a5, .int a4, .int a3, .int a2, .int a1, .ref 35] (HP lx xs M) Q = Go d 103 0 [some (.ref 35), some (.int a1), some (.int a2), some (.int a3), some (.int a4), some (.int a5), none] [] (HP lx xs M) (fun v h2 => Go (d + 1) 102 192 L (ap v []) h2 Q) := go_cx (E := (.invokevirtual 108, 103, 0, 4)) (k' := 103) (as := [.ref 35, .int a1, .int a2, .int a3, .int a4, .int a5]) rfl rfl rfl rfl rfl rfl rfl rfl
set_option maxRecDepth 30000 in
theorem s_102_192 : Go d 102 192 L (.int x :: st) h Q = (if x = 0 then Go d 102 197 L st h Q else Go d 102 195 L st h Q) := go_ifeq rfl
set_option maxRecDepth 30000 in
theorem s_102_195 : Go d 102 195 L (st) h Q = Go d 102 196 L (.int (nI 1) :: st) h Q := go_ic rfl ci_i1
set_option maxRecDepth 30000 in
theorem s_102_196_0 : Go d 102 196 L [.int (nI 0)] h Q = Q (some (.int (nI 0))) h := go_rz rfl rfl (by decide)
set_option maxRecDepth 30000 in
theorem s_102_196_1 : Go d 102 196 L [.int (nI 1)] h Q = Q (some (.int (nI 1))) h := go_rz rfl rfl (by decide)
set_option maxRecDepth 30000 in
theorem s_102_197 : Go d 102 197 [o0, o1, o2, o3, o4, o5, o6, o7, some (.int x), o9, o10] (st) h Q = Go d 102 200 [o0, o1, o2, o3, o4, o5, o6, o7, some (.int (x + nI 1)), o9, o10] (st) h Q := (ci_i1 ▸ go_lo (E := (.iinc 8 1, 0, 0, 0)) rfl rfl rfl : _ = Go d 102 200 [o0, o1, o2, o3, o4, o5, o6, o7, some (.int (x + nI 1)), o9, o10] (st) h Q)
set_option maxRecDepth 30000 in
theorem s_102_200 : Go d 102 200 L (st) h Q = Go d 102 64 L (st) h Q := go_goto rfl
set_option maxRecDepth 30000 in
theorem s_102_203 : Go d 102 203 [some (.ref r), o1, o2, o3, o4, o5, o6, o7, o8, o9, o10] (st) h Q = Go d 102 204 [some (.ref r), o1, o2, o3, o4, o5, o6, o7, o8, o9, o10] (.ref r :: st) h Q := go_lo (E := (.aload_n 0, 0, 0, 0)) rfl rfl rfl
set_option maxRecDepth 30000 in
theorem s_102_204 : Go d 102 204 L (.ref 35 :: st) (HP lx xs M) Q = Go d 102 207 L (.ref 40 :: st) (HP lx xs M) Q := go_gf rfl rfl (by decide) rfl
set_option maxRecDepth 30000 in
theorem s_102_207 : Go d 102 207 [o0, o1, o2, o3, o4, o5, o6, some (.int x), o8, o9, o10] (st) h Q = Go d 102 209 [o0, o1, o2, o3, o4, o5, o6, some (.int x), o8, o9, o10] (.int x :: st) h Q := go_lo (E := (.iload 7, 0, 0, 0)) rfl rfl rfl
set_option maxRecDepth 30000 in
theorem s_102_209 : Go d 102 209 [o0, o1, o2, o3, o4, o5, some (.int x), o7, o8, o9, o10] (st) h Q = Go d 102 211 [o0, o1, o2, o3, o4, o5, some (.int x), o7, o8, o9, o10] (.int x :: st) h Q := go_lo (E := (.iload 6, 0, 0, 0)) rfl rfl rfl
set_option maxRecDepth 30000 in
theorem s_102_211 : Go d 102 211 L (.int y :: .int x :: st) h Q = Go d 102 212 L (.int (x + y) :: st) h Q := go_op (E := (.iadd, 0, 0, 0)) rfl rfl
set_option maxRecDepth 30000 in
theorem s_102_212 : Go d 102 212 L (.int x :: .ref 40 :: st) (HP lx xs M) Q = (ex_in x 78 = true ∧ Go d 102 213 L (.int (M 40 x.toNatClampNeg) :: st) (HP lx xs M) Q) := go_al rfl rfl
set_option maxRecDepth 30000 in
theorem s_102_213 : Go d 102 213 [o0, o1, o2, some (.int x), o4, o5, o6, o7, o8, o9, o10] (st) h Q = Go d 102 214 [o0, o1, o2, some (.int x), o4, o5, o6, o7, o8, o9, o10] (.int x :: st) h Q := go_lo (E := (.iload_n 3, 0, 0, 0)) rfl rfl rfl
set_option maxRecDepth 30000 in
theorem s_102_214 : Go d 102 214 L (.int y :: .int x :: st) h Q = Go d 102 215 L (.int (x &&& y) :: st) h Q := go_op (E := (.iand, 0, 0, 0)) rfl rfl
set_option maxRecDepth 30000 in
theorem s_102_215 : Go d 102 215 L (.int x :: st) h Q = (if x = 0 then Go d 102 220 L st h Q else Go d 102 218 L st h Q) := go_ifeq rfl
set_option maxRecDepth 30000 in
theorem s_102_218 : Go d 102 218 L (st) h Q = Go d 102 219 L (.int (nI 0) :: st) h Q := go_ic rfl ci_i0
set_option maxRecDepth 30000 in
theorem s_102_219_0 : Go d 102 219 L [.int (nI 0)] h Q = Q (some (.int (nI 0))) h := go_rz rfl rfl (by decide)
set_option maxRecDepth 30000 in
theorem s_102_219_1 : Go d 102 219 L [.int (nI 1)] h Q = Q (some (.int (nI 1))) h := go_rz rfl rfl (by decide)
set_option maxRecDepth 30000 in
theorem s_102_220 : Go d 102 220 [some (.ref r), o1, o2, o3, o4, o5, o6, o7, o8, o9, o10] (st) h Q = Go d 102 221 [some (.ref r), o1, o2, o3, o4, o5, o6, o7, o8, o9, o10] (.ref r :: st) h Q := go_lo (E := (.aload_n 0, 0, 0, 0)) rfl rfl rfl
set_option maxRecDepth 30000 in
theorem s_102_221 : Go d 102 221 [o0, some (.int x), o2, o3, o4, o5, o6, o7, o8, o9, o10] (st) h Q = Go d 102 222 [o0, some (.int x), o2, o3, o4, o5, o6, o7, o8, o9, o10] (.int x :: st) h Q := go_lo (E := (.iload_n 1, 0, 0, 0)) rfl rfl rfl
set_option maxRecDepth 30000 in
theorem s_102_222 : Go d 102 222 [o0, o1, some (.int x), o3, o4, o5, o6, o7, o8, o9, o10] (st) h Q = Go d 102 223 [o0, o1, some (.int x), o3, o4, o5, o6, o7, o8, o9, o10] (.int x :: st) h Q := go_lo (E := (.iload_n 2, 0, 0, 0)) rfl rfl rfl
set_option maxRecDepth 30000 in
theorem s_102_223 : Go d 102 223 L (st) h Q = Go d 102 224 L (.int (nI 1) :: st) h Q := go_ic rfl ci_i1
set_option maxRecDepth 30000 in
theorem s_102_224 : Go d 102 224 [o0, o1, o2, o3, o4, o5, some (.int x), o7, o8, o9, o10] (st) h Q = Go d 102 226 [o0, o1, o2, o3, o4, o5, some (.int x), o7, o8, o9, o10] (.int x :: st) h Q := go_lo (E := (.iload 6, 0, 0, 0)) rfl rfl rfl
set_option maxRecDepth 30000 in
theorem s_102_226 : Go d 102 226 L (.int y :: .int x :: st) h Q = Go d 102 227 L (.int (x <<< (y &&& 31)) :: st) h Q := go_op (E := (.ishl, 0, 0, 0)) rfl rfl
set_option maxRecDepth 30000 in
theorem s_102_227 : Go d 102 227 L (st) h Q = Go d 102 228 L (.int (-1) :: st) h Q := go_ic rfl ci_im1
set_option maxRecDepth 30000 in
theorem s_102_228 : Go d 102 228 L (.int y :: .int x :: st) h Q = Go d 102 229 L (.int (x ^^^ y) :: st) h Q := go_op (E := (.ixor, 0, 0, 0)) rfl rfl
set_option maxRecDepth 30000 in
theorem s_102_229 : Go d 102 229 L (.int y :: .int x :: st) h Q = Go d 102 230 L (.int (x &&& y) :: st) h Q := go_op (E := (.iand, 0, 0, 0)) rfl rfl
set_option maxRecDepth 30000 in
theorem s_102_230 : Go d 102 230 [o0, o1, o2, some (.int x), o4, o5, o6, o7, o8, o9, o10] (st) h Q = Go d 102 231 [o0, o1, o2, some (.int x), o4, o5, o6, o7, o8, o9, o10] (.int x :: st) h Q := go_lo (E := (.iload_n 3, 0, 0, 0)) rfl rfl rfl
set_option maxRecDepth 30000 in
theorem s_102_231 : Go d 102 231 L (st) h Q = Go d 102 232 L (.int (nI 1) :: st) h Q := go_ic rfl ci_i1
set_option maxRecDepth 30000 in
theorem s_102_232 : Go d 102 232 [o0, o1, o2, o3, o4, o5, some (.int x), o7, o8, o9, o10] (st) h Q = Go d 102 234 [o0, o1, o2, o3, o4, o5, some (.int x), o7, o8, o9, o10] (.int x :: st) h Q := go_lo (E := (.iload 6, 0, 0, 0)) rfl rfl rfl
set_option maxRecDepth 30000 in
theorem s_102_234 : Go d 102 234 L (.int y :: .int x :: st) h Q = Go d 102 235 L (.int (x <<< (y &&& 31)) :: st) h Q := go_op (E := (.ishl, 0, 0, 0)) rfl rfl
set_option maxRecDepth 30000 in
theorem s_102_235 : Go d 102 235 L (.int y :: .int x :: st) h Q = Go d 102 236 L (.int (x ||| y) :: st) h Q := go_op (E := (.ior, 0, 0, 0)) rfl rfl
set_option maxRecDepth 30000 in
theorem s_102_236 : Go d 102 236 [o0, o1, o2, o3, some (.int x), o5, o6, o7, o8, o9, o10] (st) h Q = Go d 102 238 [o0, o1, o2, o3, some (.int x), o5, o6, o7, o8, o9, o10] (.int x :: st) h Q := go_lo (E := (.iload 4, 0, 0, 0)) rfl rfl rfl
set_option maxRecDepth 30000 in
theorem s_102_238 {a1 : Int32} {a2 : Int32} {a3 : Int32} {a4 : Int32} : Go (d + 1) 102 238 L [.int a4, .int a3, .int a2, .int a1, .ref 35] (HP lx xs M) Q = Go d 102 0 [some (.ref 35), some (.int a1), some (.int a2), some (.int a3), some (.int a4), none, none, none, none, none, none] [] (HP lx xs M) (fun v h2 => Go (d + 1) 102 241 L (ap v []) h2 Q) := go_cx (E := (.invokevirtual 101, 102, 0, 4)) (k' := 102) (as := [.ref 35, .int a1, .int a2, .int a3, .int a4]) rfl rfl rfl rfl rfl rfl rfl rfl
set_option maxRecDepth 30000 in
theorem s_102_241_0 : Go d 102 241 L [.int (nI 0)] h Q = Q (some (.int (nI 0))) h := go_rz rfl rfl (by decide)
set_option maxRecDepth 30000 in
theorem s_102_241_1 : Go d 102 241 L [.int (nI 1)] h Q = Q (some (.int (nI 1))) h := go_rz rfl rfl (by decide)
theorem s_103_0 : Go d 103 0 L (st) h Q = Go d 103 1 L (.int (nI 0) :: st) h Q := go_ic rfl ci_i0
theorem s_103_1 : Go d 103 1 [o0, o1, o2, o3, o4, o5, o6] (.int x :: st) h Q = Go d 103 3 [o0, o1, o2, o3, o4, o5, some (.int x)] (st) h Q := go_lo (E := (.istore 6, 0, 0, 0)) rfl rfl rfl
theorem s_103_3 : Go d 103 3 [o0, o1, o2, o3, o4, o5, some (.int x)] (st) h Q = Go d 103 5 [o0, o1, o2, o3, o4, o5, some (.int x)] (.int x :: st) h Q := go_lo (E := (.iload 6, 0, 0, 0)) rfl rfl rfl
theorem s_103_5 : Go d 103 5 L (st) h Q = Go d 103 7 L (.int (nI 12) :: st) h Q := go_bi rfl ci_b12
theorem s_103_7 : Go d 103 7 L (.int y :: .int x :: st) h Q = (if x < y then Go d 103 10 L st h Q else Go d 103 45 L st h Q) := go_icge rfl
theorem s_103_10 : Go d 103 10 [o0, o1, o2, o3, o4, some (.int x), o6] (st) h Q = Go d 103 12 [o0, o1, o2, o3, o4, some (.int x), o6] (.int x :: st) h Q := go_lo (E := (.iload 5, 0, 0, 0)) rfl rfl rfl
theorem s_103_12 : Go d 103 12 [o0, o1, o2, o3, o4, o5, some (.int x)] (st) h Q = Go d 103 14 [o0, o1, o2, o3, o4, o5, some (.int x)] (.int x :: st) h Q := go_lo (E := (.iload 6, 0, 0, 0)) rfl rfl rfl
theorem s_103_14 {a0 : Int32} {a1 : Int32} : Go (d + 1) 103 14 L [.int a1, .int a0] h Q = Go d 49 0 [some (.int a0), some (.int a1)] [] h (fun v h2 => Go (d + 1) 103 17 L (ap v []) h2 Q) := go_cx (E := (.invokestatic 70, 49, 1, 0)) (k' := 49) (as := [.int a0, .int a1]) rfl rfl rfl rfl rfl rfl rfl rfl
theorem s_103_17 : Go d 103 17 L (.int x :: st) h Q = (if x = 0 then Go d 103 39 L st h Q else Go d 103 20 L st h Q) := go_ifeq rfl
theorem s_103_20 : Go d 103 20 [some (.ref r), o1, o2, o3, o4, o5, o6] (st) h Q = Go d 103 21 [some (.ref r), o1, o2, o3, o4, o5, o6] (.ref r :: st) h Q := go_lo (E := (.aload_n 0, 0, 0, 0)) rfl rfl rfl
theorem s_103_21 : Go d 103 21 [o0, some (.int x), o2, o3, o4, o5, o6] (st) h Q = Go d 103 22 [o0, some (.int x), o2, o3, o4, o5, o6] (.int x :: st) h Q := go_lo (E := (.iload_n 1, 0, 0, 0)) rfl rfl rfl
theorem s_103_22 : Go d 103 22 [o0, o1, some (.int x), o3, o4, o5, o6] (st) h Q = Go d 103 23 [o0, o1, some (.int x), o3, o4, o5, o6] (.int x :: st) h Q := go_lo (E := (.iload_n 2, 0, 0, 0)) rfl rfl rfl
theorem s_103_23 : Go d 103 23 [o0, o1, o2, some (.int x), o4, o5, o6] (st) h Q = Go d 103 24 [o0, o1, o2, some (.int x), o4, o5, o6] (.int x :: st) h Q := go_lo (E := (.iload_n 3, 0, 0, 0)) rfl rfl rfl
theorem s_103_24 : Go d 103 24 [o0, o1, o2, o3, some (.int x), o5, o6] (st) h Q = Go d 103 26 [o0, o1, o2, o3, some (.int x), o5, o6] (.int x :: st) h Q := go_lo (E := (.iload 4, 0, 0, 0)) rfl rfl rfl
theorem s_103_26 : Go d 103 26 L (st) h Q = Go d 103 27 L (.int (nI 1) :: st) h Q := go_ic rfl ci_i1
theorem s_103_27 : Go d 103 27 [o0, o1, o2, o3, o4, o5, some (.int x)] (st) h Q = Go d 103 29 [o0, o1, o2, o3, o4, o5, some (.int x)] (.int x :: st) h Q := go_lo (E := (.iload 6, 0, 0, 0)) rfl rfl rfl
theorem s_103_29 : Go d 103 29 L (.int y :: .int x :: st) h Q = Go d 103 30 L (.int (x <<< (y &&& 31)) :: st) h Q := go_op (E := (.ishl, 0, 0, 0)) rfl rfl
theorem s_103_30 : Go d 103 30 L (.int y :: .int x :: st) h Q = Go d 103 31 L (.int (x ||| y) :: st) h Q := go_op (E := (.ior, 0, 0, 0)) rfl rfl
theorem s_103_31 {a1 : Int32} {a2 : Int32} {a3 : Int32} {a4 : Int32} : Go (d + 1) 103 31 L [.int a4, .int a3, .int a2, .int a1, .ref 35] (HP lx xs M) Q = Go d 102 0 [some (.ref 35), some (.int a1), some (.int a2), some (.int a3), some (.int a4), none, none, none, none, none, none] [] (HP lx xs M) (fun v h2 => Go (d + 1) 103 34 L (ap v []) h2 Q) := go_cx (E := (.invokevirtual 101, 102, 0, 4)) (k' := 102) (as := [.ref 35, .int a1, .int a2, .int a3, .int a4]) rfl rfl rfl rfl rfl rfl rfl rfl
theorem s_103_34 : Go d 103 34 L (.int x :: st) h Q = (if x = 0 then Go d 103 39 L st h Q else Go d 103 37 L st h Q) := go_ifeq rfl
theorem s_103_37 : Go d 103 37 L (st) h Q = Go d 103 38 L (.int (nI 1) :: st) h Q := go_ic rfl ci_i1
theorem s_103_38_0 : Go d 103 38 L [.int (nI 0)] h Q = Q (some (.int (nI 0))) h := go_rz rfl rfl (by decide)
theorem s_103_38_1 : Go d 103 38 L [.int (nI 1)] h Q = Q (some (.int (nI 1))) h := go_rz rfl rfl (by decide)
theorem s_103_39 : Go d 103 39 [o0, o1, o2, o3, o4, o5, some (.int x)] (st) h Q = Go d 103 42 [o0, o1, o2, o3, o4, o5, some (.int (x + nI 1))] (st) h Q := (ci_i1 ▸ go_lo (E := (.iinc 6 1, 0, 0, 0)) rfl rfl rfl : _ = Go d 103 42 [o0, o1, o2, o3, o4, o5, some (.int (x + nI 1))] (st) h Q)
theorem s_103_42 : Go d 103 42 L (st) h Q = Go d 103 3 L (st) h Q := go_goto rfl
theorem s_103_45 : Go d 103 45 L (st) h Q = Go d 103 46 L (.int (nI 0) :: st) h Q := go_ic rfl ci_i0
theorem s_103_46_0 : Go d 103 46 L [.int (nI 0)] h Q = Q (some (.int (nI 0))) h := go_rz rfl rfl (by decide)
theorem s_103_46_1 : Go d 103 46 L [.int (nI 1)] h Q = Q (some (.int (nI 1))) h := go_rz rfl rfl (by decide)
theorem s_104_0 : Go d 104 0 L (st) h Q = Go d 104 1 L (.int (nI 0) :: st) h Q := go_ic rfl ci_i0
theorem s_104_1 : Go d 104 1 [o0, o1] (.int x :: st) h Q = Go d 104 2 [o0, some (.int x)] (st) h Q := go_lo (E := (.istore_n 1, 0, 0, 0)) rfl rfl rfl
theorem s_104_2 : Go d 104 2 [o0, some (.int x)] (st) h Q = Go d 104 3 [o0, some (.int x)] (.int x :: st) h Q := go_lo (E := (.iload_n 1, 0, 0, 0)) rfl rfl rfl
theorem s_104_3 : Go d 104 3 L (st) h Q = Go d 104 5 L (.int (nI 6) :: st) h Q := go_bi rfl ci_b6
theorem s_104_5 : Go d 104 5 L (.int y :: .int x :: st) h Q = (if x < y then Go d 104 8 L st h Q else Go d 104 24 L st h Q) := go_icge rfl
theorem s_104_8 : Go d 104 8 [some (.int x), o1] (st) h Q = Go d 104 9 [some (.int x), o1] (.int x :: st) h Q := go_lo (E := (.iload_n 0, 0, 0, 0)) rfl rfl rfl
theorem s_104_9 : Go d 104 9 [o0, some (.int x)] (st) h Q = Go d 104 10 [o0, some (.int x)] (.int x :: st) h Q := go_lo (E := (.iload_n 1, 0, 0, 0)) rfl rfl rfl
theorem s_104_10 {a0 : Int32} {a1 : Int32} : Go (d + 1) 104 10 L [.int a1, .int a0] h Q = Go d 49 0 [some (.int a0), some (.int a1)] [] h (fun v h2 => Go (d + 1) 104 13 L (ap v []) h2 Q) := go_cx (E := (.invokestatic 70, 49, 1, 0)) (k' := 49) (as := [.int a0, .int a1]) rfl rfl rfl rfl rfl rfl rfl rfl
theorem s_104_13 : Go d 104 13 L (.int x :: st) h Q = (if x = 0 then Go d 104 18 L st h Q else Go d 104 16 L st h Q) := go_ifeq rfl
theorem s_104_16 : Go d 104 16 [o0, some (.int x)] (st) h Q = Go d 104 17 [o0, some (.int x)] (.int x :: st) h Q := go_lo (E := (.iload_n 1, 0, 0, 0)) rfl rfl rfl
theorem s_104_17 : Go d 104 17 L [.int x] h Q = Q (some (.int x)) h := go_ri rfl rfl
theorem s_104_18 : Go d 104 18 [o0, some (.int x)] (st) h Q = Go d 104 21 [o0, some (.int (x + nI 1))] (st) h Q := (ci_i1 ▸ go_lo (E := (.iinc 1 1, 0, 0, 0)) rfl rfl rfl : _ = Go d 104 21 [o0, some (.int (x + nI 1))] (st) h Q)
theorem s_104_21 : Go d 104 21 L (st) h Q = Go d 104 2 L (st) h Q := go_goto rfl
theorem s_104_24 : Go d 104 24 L (st) h Q = Go d 104 25 L (.int (nI 0) :: st) h Q := go_ic rfl ci_i0
theorem s_104_25 : Go d 104 25 L [.int x] h Q = Q (some (.int x)) h := go_ri rfl rfl
end SL
