section SL
variable {d : Nat} {L : ex_L} {st : List Value} {h : ex_H} {Q : Option Value → ex_H → Prop} {lx : Nat} {xs : Nat → Int32} {M : Nat → Nat → Int32} {x y : Int32} {u w : Int64} {r r2 : Nat} {o0 o1 o2 o3 o4 o5 o6 o7 o8 o9 o10 o11 : Option Value}
theorem s_1_0 : Go d 1 0 [some (.ref r)] (st) h Q = Go d 1 1 [some (.ref r)] (.ref r :: st) h Q := go_lo (E := (.aload_n 0, 0, 0, 0)) rfl rfl rfl
theorem s_1_1_45 : Go d 1 1 L (.ref 45 :: st) (HP lx xs M) Q = Go d 1 4 L (.int (M 45 1) :: st) (HP lx xs M) Q := go_gf rfl rfl (by decide) rfl
theorem s_1_1_47 : Go d 1 1 L (.ref 47 :: st) (HP lx xs M) Q = Go d 1 4 L (.int (M 47 1) :: st) (HP lx xs M) Q := go_gf rfl rfl (by decide) rfl
theorem s_1_1_49 : Go d 1 1 L (.ref 49 :: st) (HP lx xs M) Q = Go d 1 4 L (.int (M 49 1) :: st) (HP lx xs M) Q := go_gf rfl rfl (by decide) rfl
theorem s_1_1_51 : Go d 1 1 L (.ref 51 :: st) (HP lx xs M) Q = Go d 1 4 L (.int (M 51 1) :: st) (HP lx xs M) Q := go_gf rfl rfl (by decide) rfl
theorem s_1_4 : Go d 1 4 L (.int x :: st) h Q = (if x < 0 then Go d 1 7 L st h Q else Go d 1 11 L st h Q) := go_ifge rfl
theorem s_1_7 : Go d 1 7 L (st) h Q = Go d 1 8 L (.int (nI 1) :: st) h Q := go_ic rfl ci_i1
theorem s_1_8 : Go d 1 8 L (st) h Q = Go d 1 12 L (st) h Q := go_goto rfl
theorem s_1_11 : Go d 1 11 L (st) h Q = Go d 1 12 L (.int (nI 0) :: st) h Q := go_ic rfl ci_i0
theorem s_1_12_0 : Go d 1 12 L [.int (nI 0)] h Q = Q (some (.int (nI 0))) h := go_rz rfl rfl (by decide)
theorem s_1_12_1 : Go d 1 12 L [.int (nI 1)] h Q = Q (some (.int (nI 1))) h := go_rz rfl rfl (by decide)
theorem s_2_0 : Go d 2 0 [o0, some (.int x), o2] (st) h Q = Go d 2 1 [o0, some (.int x), o2] (.int x :: st) h Q := go_lo (E := (.iload_n 1, 0, 0, 0)) rfl rfl rfl
theorem s_2_1 : Go d 2 1 L (.int x :: st) h Q = (if x < 0 then Go d 2 30 L st h Q else Go d 2 4 L st h Q) := go_iflt rfl
theorem s_2_4 : Go d 2 4 [o0, o1, some (.int x)] (st) h Q = Go d 2 5 [o0, o1, some (.int x)] (.int x :: st) h Q := go_lo (E := (.iload_n 2, 0, 0, 0)) rfl rfl rfl
theorem s_2_5 : Go d 2 5 L (.int x :: st) h Q = (if x < 0 then Go d 2 30 L st h Q else Go d 2 8 L st h Q) := go_iflt rfl
theorem s_2_8 : Go d 2 8 [o0, o1, some (.int x)] (st) h Q = Go d 2 9 [o0, o1, some (.int x)] (.int x :: st) h Q := go_lo (E := (.iload_n 2, 0, 0, 0)) rfl rfl rfl
theorem s_2_9 : Go d 2 9 [some (.ref r), o1, o2] (st) h Q = Go d 2 10 [some (.ref r), o1, o2] (.ref r :: st) h Q := go_lo (E := (.aload_n 0, 0, 0, 0)) rfl rfl rfl
theorem s_2_10_45 : Go d 2 10 L (.ref 45 :: st) (HP lx xs M) Q = Go d 2 13 L (.int (M 45 1) :: st) (HP lx xs M) Q := go_gf rfl rfl (by decide) rfl
theorem s_2_10_47 : Go d 2 10 L (.ref 47 :: st) (HP lx xs M) Q = Go d 2 13 L (.int (M 47 1) :: st) (HP lx xs M) Q := go_gf rfl rfl (by decide) rfl
theorem s_2_10_49 : Go d 2 10 L (.ref 49 :: st) (HP lx xs M) Q = Go d 2 13 L (.int (M 49 1) :: st) (HP lx xs M) Q := go_gf rfl rfl (by decide) rfl
theorem s_2_10_51 : Go d 2 10 L (.ref 51 :: st) (HP lx xs M) Q = Go d 2 13 L (.int (M 51 1) :: st) (HP lx xs M) Q := go_gf rfl rfl (by decide) rfl
theorem s_2_13 : Go d 2 13 L (.int y :: .int x :: st) h Q = (if y < x then Go d 2 30 L st h Q else Go d 2 16 L st h Q) := go_icgt rfl
theorem s_2_16 : Go d 2 16 [o0, some (.int x), o2] (st) h Q = Go d 2 17 [o0, some (.int x), o2] (.int x :: st) h Q := go_lo (E := (.iload_n 1, 0, 0, 0)) rfl rfl rfl
theorem s_2_17 : Go d 2 17 [some (.ref r), o1, o2] (st) h Q = Go d 2 18 [some (.ref r), o1, o2] (.ref r :: st) h Q := go_lo (E := (.aload_n 0, 0, 0, 0)) rfl rfl rfl
theorem s_2_18_45 : Go d 2 18 L (.ref 45 :: st) (HP lx xs M) Q = Go d 2 21 L (.int (M 45 1) :: st) (HP lx xs M) Q := go_gf rfl rfl (by decide) rfl
theorem s_2_18_47 : Go d 2 18 L (.ref 47 :: st) (HP lx xs M) Q = Go d 2 21 L (.int (M 47 1) :: st) (HP lx xs M) Q := go_gf rfl rfl (by decide) rfl
theorem s_2_18_49 : Go d 2 18 L (.ref 49 :: st) (HP lx xs M) Q = Go d 2 21 L (.int (M 49 1) :: st) (HP lx xs M) Q := go_gf rfl rfl (by decide) rfl
theorem s_2_18_51 : Go d 2 18 L (.ref 51 :: st) (HP lx xs M) Q = Go d 2 21 L (.int (M 51 1) :: st) (HP lx xs M) Q := go_gf rfl rfl (by decide) rfl
theorem s_2_21 : Go d 2 21 [o0, o1, some (.int x)] (st) h Q = Go d 2 22 [o0, o1, some (.int x)] (.int x :: st) h Q := go_lo (E := (.iload_n 2, 0, 0, 0)) rfl rfl rfl
theorem s_2_22 : Go d 2 22 L (.int y :: .int x :: st) h Q = Go d 2 23 L (.int (x - y) :: st) h Q := go_op (E := (.isub, 0, 0, 0)) rfl rfl
theorem s_2_23 : Go d 2 23 L (.int y :: .int x :: st) h Q = (if y < x then Go d 2 30 L st h Q else Go d 2 26 L st h Q) := go_icgt rfl
theorem s_2_26 : Go d 2 26 L (st) h Q = Go d 2 27 L (.int (nI 1) :: st) h Q := go_ic rfl ci_i1
theorem s_2_27 : Go d 2 27 L (st) h Q = Go d 2 31 L (st) h Q := go_goto rfl
theorem s_2_30 : Go d 2 30 L (st) h Q = Go d 2 31 L (.int (nI 0) :: st) h Q := go_ic rfl ci_i0
theorem s_2_31_0 : Go d 2 31 L [.int (nI 0)] h Q = Q (some (.int (nI 0))) h := go_rz rfl rfl (by decide)
theorem s_2_31_1 : Go d 2 31 L [.int (nI 1)] h Q = Q (some (.int (nI 1))) h := go_rz rfl rfl (by decide)
theorem s_3_0 : Go d 3 0 [some (.ref r), o1, o2, o3] (st) h Q = Go d 3 1 [some (.ref r), o1, o2, o3] (.ref r :: st) h Q := go_lo (E := (.aload_n 0, 0, 0, 0)) rfl rfl rfl
theorem s_3_1_45  : Go (d + 1) 3 1 L [.ref 45] (HP lx xs M) Q = Go d 1 0 [some (.ref 45)] [] (HP lx xs M) (fun v h2 => Go (d + 1) 3 4 L (ap v []) h2 Q) := go_cx (E := (.invokevirtual 19, 1, 0, 5)) (k' := 1) (as := [.ref 45]) rfl rfl rfl rfl rfl rfl rfl rfl
theorem s_3_1_47  : Go (d + 1) 3 1 L [.ref 47] (HP lx xs M) Q = Go d 1 0 [some (.ref 47)] [] (HP lx xs M) (fun v h2 => Go (d + 1) 3 4 L (ap v []) h2 Q) := go_cx (E := (.invokevirtual 19, 1, 0, 5)) (k' := 1) (as := [.ref 47]) rfl rfl rfl rfl rfl rfl rfl rfl
theorem s_3_1_49  : Go (d + 1) 3 1 L [.ref 49] (HP lx xs M) Q = Go d 1 0 [some (.ref 49)] [] (HP lx xs M) (fun v h2 => Go (d + 1) 3 4 L (ap v []) h2 Q) := go_cx (E := (.invokevirtual 19, 1, 0, 5)) (k' := 1) (as := [.ref 49]) rfl rfl rfl rfl rfl rfl rfl rfl
theorem s_3_1_51  : Go (d + 1) 3 1 L [.ref 51] (HP lx xs M) Q = Go d 1 0 [some (.ref 51)] [] (HP lx xs M) (fun v h2 => Go (d + 1) 3 4 L (ap v []) h2 Q) := go_cx (E := (.invokevirtual 19, 1, 0, 5)) (k' := 1) (as := [.ref 51]) rfl rfl rfl rfl rfl rfl rfl rfl
theorem s_3_4 : Go d 3 4 L (.int x :: st) h Q = (if x = 0 then Go d 3 10 L st h Q else Go d 3 7 L st h Q) := go_ifeq rfl
theorem s_3_7 : Go d 3 7 L (st) h Q = Go d 3 9 L (.int (-11) :: st) h Q := go_bi rfl ci_bm11
theorem s_3_9 : Go d 3 9 L [.int x] h Q = Q (some (.int x)) h := go_ri rfl rfl
theorem s_3_10 : Go d 3 10 [some (.ref r), o1, o2, o3] (st) h Q = Go d 3 11 [some (.ref r), o1, o2, o3] (.ref r :: st) h Q := go_lo (E := (.aload_n 0, 0, 0, 0)) rfl rfl rfl
theorem s_3_11_45 : Go d 3 11 L (.ref 45 :: st) (HP lx xs M) Q = Go d 3 14 L (.int (M 45 0) :: st) (HP lx xs M) Q := go_gf rfl rfl (by decide) rfl
theorem s_3_11_47 : Go d 3 11 L (.ref 47 :: st) (HP lx xs M) Q = Go d 3 14 L (.int (M 47 0) :: st) (HP lx xs M) Q := go_gf rfl rfl (by decide) rfl
theorem s_3_11_49 : Go d 3 11 L (.ref 49 :: st) (HP lx xs M) Q = Go d 3 14 L (.int (M 49 0) :: st) (HP lx xs M) Q := go_gf rfl rfl (by decide) rfl
theorem s_3_11_51 : Go d 3 11 L (.ref 51 :: st) (HP lx xs M) Q = Go d 3 14 L (.int (M 51 0) :: st) (HP lx xs M) Q := go_gf rfl rfl (by decide) rfl
theorem s_3_14 : Go d 3 14 [o0, some (.int x), o2, o3] (st) h Q = Go d 3 15 [o0, some (.int x), o2, o3] (.int x :: st) h Q := go_lo (E := (.iload_n 1, 0, 0, 0)) rfl rfl rfl
theorem s_3_15 : Go d 3 15 L (.int y :: .int x :: st) h Q = (if x = y then Go d 3 21 L st h Q else Go d 3 18 L st h Q) := go_iceq rfl
theorem s_3_18 : Go d 3 18 L (st) h Q = Go d 3 20 L (.int (-12) :: st) h Q := go_bi rfl ci_bm12
theorem s_3_20 : Go d 3 20 L [.int x] h Q = Q (some (.int x)) h := go_ri rfl rfl
theorem s_3_21 : Go d 3 21 [some (.ref r), o1, o2, o3] (st) h Q = Go d 3 22 [some (.ref r), o1, o2, o3] (.ref r :: st) h Q := go_lo (E := (.aload_n 0, 0, 0, 0)) rfl rfl rfl
theorem s_3_22 : Go d 3 22 [o0, o1, some (.int x), o3] (st) h Q = Go d 3 23 [o0, o1, some (.int x), o3] (.int x :: st) h Q := go_lo (E := (.iload_n 2, 0, 0, 0)) rfl rfl rfl
theorem s_3_23 : Go d 3 23 [o0, o1, o2, some (.int x)] (st) h Q = Go d 3 24 [o0, o1, o2, some (.int x)] (.int x :: st) h Q := go_lo (E := (.iload_n 3, 0, 0, 0)) rfl rfl rfl
theorem s_3_24_45 {a1 : Int32} {a2 : Int32} : Go (d + 1) 3 24 L [.int a2, .int a1, .ref 45] (HP lx xs M) Q = Go d 2 0 [some (.ref 45), some (.int a1), some (.int a2)] [] (HP lx xs M) (fun v h2 => Go (d + 1) 3 27 L (ap v []) h2 Q) := go_cx (E := (.invokevirtual 26, 2, 0, 5)) (k' := 2) (as := [.ref 45, .int a1, .int a2]) rfl rfl rfl rfl rfl rfl rfl rfl
theorem s_3_24_47 {a1 : Int32} {a2 : Int32} : Go (d + 1) 3 24 L [.int a2, .int a1, .ref 47] (HP lx xs M) Q = Go d 2 0 [some (.ref 47), some (.int a1), some (.int a2)] [] (HP lx xs M) (fun v h2 => Go (d + 1) 3 27 L (ap v []) h2 Q) := go_cx (E := (.invokevirtual 26, 2, 0, 5)) (k' := 2) (as := [.ref 47, .int a1, .int a2]) rfl rfl rfl rfl rfl rfl rfl rfl
theorem s_3_24_49 {a1 : Int32} {a2 : Int32} : Go (d + 1) 3 24 L [.int a2, .int a1, .ref 49] (HP lx xs M) Q = Go d 2 0 [some (.ref 49), some (.int a1), some (.int a2)] [] (HP lx xs M) (fun v h2 => Go (d + 1) 3 27 L (ap v []) h2 Q) := go_cx (E := (.invokevirtual 26, 2, 0, 5)) (k' := 2) (as := [.ref 49, .int a1, .int a2]) rfl rfl rfl rfl rfl rfl rfl rfl
theorem s_3_24_51 {a1 : Int32} {a2 : Int32} : Go (d + 1) 3 24 L [.int a2, .int a1, .ref 51] (HP lx xs M) Q = Go d 2 0 [some (.ref 51), some (.int a1), some (.int a2)] [] (HP lx xs M) (fun v h2 => Go (d + 1) 3 27 L (ap v []) h2 Q) := go_cx (E := (.invokevirtual 26, 2, 0, 5)) (k' := 2) (as := [.ref 51, .int a1, .int a2]) rfl rfl rfl rfl rfl rfl rfl rfl
theorem s_3_27 : Go d 3 27 L (.int x :: st) h Q = (if x = 0 then Go d 3 34 L st h Q else Go d 3 30 L st h Q) := go_ifeq rfl
theorem s_3_30 : Go d 3 30 L (st) h Q = Go d 3 31 L (.int (nI 0) :: st) h Q := go_ic rfl ci_i0
theorem s_3_31 : Go d 3 31 L (st) h Q = Go d 3 36 L (st) h Q := go_goto rfl
theorem s_3_34 : Go d 3 34 L (st) h Q = Go d 3 36 L (.int (-13) :: st) h Q := go_bi rfl ci_bm13
theorem s_3_36 : Go d 3 36 L [.int x] h Q = Q (some (.int x)) h := go_ri rfl rfl
theorem s_4_0 : Go d 4 0 [some (.ref r), o1, o2] (st) h Q = Go d 4 1 [some (.ref r), o1, o2] (.ref r :: st) h Q := go_lo (E := (.aload_n 0, 0, 0, 0)) rfl rfl rfl
theorem s_4_1_45 : Go d 4 1 L (.ref 45 :: st) (HP lx xs M) Q = Go d 4 4 L (.ref 46 :: st) (HP lx xs M) Q := go_gf rfl rfl (by decide) rfl
theorem s_4_1_47 : Go d 4 1 L (.ref 47 :: st) (HP lx xs M) Q = Go d 4 4 L (.ref 48 :: st) (HP lx xs M) Q := go_gf rfl rfl (by decide) rfl
theorem s_4_1_49 : Go d 4 1 L (.ref 49 :: st) (HP lx xs M) Q = Go d 4 4 L (.ref 50 :: st) (HP lx xs M) Q := go_gf rfl rfl (by decide) rfl
theorem s_4_1_51 : Go d 4 1 L (.ref 51 :: st) (HP lx xs M) Q = Go d 4 4 L (.ref 52 :: st) (HP lx xs M) Q := go_gf rfl rfl (by decide) rfl
theorem s_4_4 : Go d 4 4 L (st) h Q = Go d 4 5 L (.int (nI 0) :: st) h Q := go_ic rfl ci_i0
theorem s_4_5 {a1 : Int32} {ar0 : Nat} : Go (d + 1) 4 5 L [.int a1, .ref ar0] h Q = Go d 13 0 [some (.ref ar0), some (.int a1), none, none] [] h (fun v h2 => Go (d + 1) 4 8 L (ap v []) h2 Q) := go_cx (E := (.invokestatic 30, 13, 0, 0)) (k' := 13) (as := [.ref ar0, .int a1]) rfl rfl rfl rfl rfl rfl rfl rfl
theorem s_4_8 : Go d 4 8 [some (.ref r), o1, o2] (st) h Q = Go d 4 9 [some (.ref r), o1, o2] (.ref r :: st) h Q := go_lo (E := (.aload_n 0, 0, 0, 0)) rfl rfl rfl
theorem s_4_9 : Go d 4 9 [o0, some (.int x), o2] (st) h Q = Go d 4 10 [o0, some (.int x), o2] (.int x :: st) h Q := go_lo (E := (.iload_n 1, 0, 0, 0)) rfl rfl rfl
theorem s_4_10_45 : Go d 4 10 L (.int x :: .ref 45 :: st) (HP lx xs M) Q = Go d 4 13 L (st) (HP lx xs (up M 45 0 x)) Q := go_pf rfl rfl (by decide) (Nat.le_of_ble_eq_true rfl) rfl hf_45_0
theorem s_4_10_47 : Go d 4 10 L (.int x :: .ref 47 :: st) (HP lx xs M) Q = Go d 4 13 L (st) (HP lx xs (up M 47 0 x)) Q := go_pf rfl rfl (by decide) (Nat.le_of_ble_eq_true rfl) rfl hf_47_0
theorem s_4_10_49 : Go d 4 10 L (.int x :: .ref 49 :: st) (HP lx xs M) Q = Go d 4 13 L (st) (HP lx xs (up M 49 0 x)) Q := go_pf rfl rfl (by decide) (Nat.le_of_ble_eq_true rfl) rfl hf_49_0
theorem s_4_10_51 : Go d 4 10 L (.int x :: .ref 51 :: st) (HP lx xs M) Q = Go d 4 13 L (st) (HP lx xs (up M 51 0 x)) Q := go_pf rfl rfl (by decide) (Nat.le_of_ble_eq_true rfl) rfl hf_51_0
theorem s_4_13 : Go d 4 13 [some (.ref r), o1, o2] (st) h Q = Go d 4 14 [some (.ref r), o1, o2] (.ref r :: st) h Q := go_lo (E := (.aload_n 0, 0, 0, 0)) rfl rfl rfl
theorem s_4_14 : Go d 4 14 [o0, o1, some (.int x)] (st) h Q = Go d 4 15 [o0, o1, some (.int x)] (.int x :: st) h Q := go_lo (E := (.iload_n 2, 0, 0, 0)) rfl rfl rfl
theorem s_4_15_45 : Go d 4 15 L (.int x :: .ref 45 :: st) (HP lx xs M) Q = Go d 4 18 L (st) (HP lx xs (up M 45 1 x)) Q := go_pf rfl rfl (by decide) (Nat.le_of_ble_eq_true rfl) rfl hf_45_1
theorem s_4_15_47 : Go d 4 15 L (.int x :: .ref 47 :: st) (HP lx xs M) Q = Go d 4 18 L (st) (HP lx xs (up M 47 1 x)) Q := go_pf rfl rfl (by decide) (Nat.le_of_ble_eq_true rfl) rfl hf_47_1
theorem s_4_15_49 : Go d 4 15 L (.int x :: .ref 49 :: st) (HP lx xs M) Q = Go d 4 18 L (st) (HP lx xs (up M 49 1 x)) Q := go_pf rfl rfl (by decide) (Nat.le_of_ble_eq_true rfl) rfl hf_49_1
theorem s_4_15_51 : Go d 4 15 L (.int x :: .ref 51 :: st) (HP lx xs M) Q = Go d 4 18 L (st) (HP lx xs (up M 51 1 x)) Q := go_pf rfl rfl (by decide) (Nat.le_of_ble_eq_true rfl) rfl hf_51_1
theorem s_4_18 : Go d 4 18 L [] h Q = Q none h := go_rv rfl rfl
theorem s_5_0 : Go d 5 0 [some (.ref r)] (st) h Q = Go d 5 1 [some (.ref r)] (.ref r :: st) h Q := go_lo (E := (.aload_n 0, 0, 0, 0)) rfl rfl rfl
theorem s_5_1 : Go d 5 1 L (st) h Q = Go d 5 2 L (.int (-1) :: st) h Q := go_ic rfl ci_im1
theorem s_5_2_45 : Go d 5 2 L (.int x :: .ref 45 :: st) (HP lx xs M) Q = Go d 5 5 L (st) (HP lx xs (up M 45 1 x)) Q := go_pf rfl rfl (by decide) (Nat.le_of_ble_eq_true rfl) rfl hf_45_1
theorem s_5_2_47 : Go d 5 2 L (.int x :: .ref 47 :: st) (HP lx xs M) Q = Go d 5 5 L (st) (HP lx xs (up M 47 1 x)) Q := go_pf rfl rfl (by decide) (Nat.le_of_ble_eq_true rfl) rfl hf_47_1
theorem s_5_2_49 : Go d 5 2 L (.int x :: .ref 49 :: st) (HP lx xs M) Q = Go d 5 5 L (st) (HP lx xs (up M 49 1 x)) Q := go_pf rfl rfl (by decide) (Nat.le_of_ble_eq_true rfl) rfl hf_49_1
theorem s_5_2_51 : Go d 5 2 L (.int x :: .ref 51 :: st) (HP lx xs M) Q = Go d 5 5 L (st) (HP lx xs (up M 51 1 x)) Q := go_pf rfl rfl (by decide) (Nat.le_of_ble_eq_true rfl) rfl hf_51_1
theorem s_5_5 : Go d 5 5 L [] h Q = Q none h := go_rv rfl rfl
theorem s_6_0 : Go d 6 0 [some (.ref r), o1, o2] (st) h Q = Go d 6 1 [some (.ref r), o1, o2] (.ref r :: st) h Q := go_lo (E := (.aload_n 0, 0, 0, 0)) rfl rfl rfl
theorem s_6_1_45 : Go d 6 1 L (.ref 45 :: st) (HP lx xs M) Q = Go d 6 4 L (.int (M 45 0) :: st) (HP lx xs M) Q := go_gf rfl rfl (by decide) rfl
theorem s_6_1_47 : Go d 6 1 L (.ref 47 :: st) (HP lx xs M) Q = Go d 6 4 L (.int (M 47 0) :: st) (HP lx xs M) Q := go_gf rfl rfl (by decide) rfl
theorem s_6_1_49 : Go d 6 1 L (.ref 49 :: st) (HP lx xs M) Q = Go d 6 4 L (.int (M 49 0) :: st) (HP lx xs M) Q := go_gf rfl rfl (by decide) rfl
theorem s_6_1_51 : Go d 6 1 L (.ref 51 :: st) (HP lx xs M) Q = Go d 6 4 L (.int (M 51 0) :: st) (HP lx xs M) Q := go_gf rfl rfl (by decide) rfl
theorem s_6_4 : Go d 6 4 L (.int x :: st) h Q = (if x = 0 then Go d 6 7 L st h Q else Go d 6 18 L st h Q) := go_ifne rfl
theorem s_6_7 : Go d 6 7 [some (.ref r), o1, o2] (st) h Q = Go d 6 8 [some (.ref r), o1, o2] (.ref r :: st) h Q := go_lo (E := (.aload_n 0, 0, 0, 0)) rfl rfl rfl
theorem s_6_8_45 : Go d 6 8 L (.ref 45 :: st) (HP lx xs M) Q = Go d 6 11 L (.ref 46 :: st) (HP lx xs M) Q := go_gf rfl rfl (by decide) rfl
theorem s_6_8_47 : Go d 6 8 L (.ref 47 :: st) (HP lx xs M) Q = Go d 6 11 L (.ref 48 :: st) (HP lx xs M) Q := go_gf rfl rfl (by decide) rfl
theorem s_6_8_49 : Go d 6 8 L (.ref 49 :: st) (HP lx xs M) Q = Go d 6 11 L (.ref 50 :: st) (HP lx xs M) Q := go_gf rfl rfl (by decide) rfl
theorem s_6_8_51 : Go d 6 8 L (.ref 51 :: st) (HP lx xs M) Q = Go d 6 11 L (.ref 52 :: st) (HP lx xs M) Q := go_gf rfl rfl (by decide) rfl
theorem s_6_11 : Go d 6 11 [o0, some (.int x), o2] (st) h Q = Go d 6 12 [o0, some (.int x), o2] (.int x :: st) h Q := go_lo (E := (.iload_n 1, 0, 0, 0)) rfl rfl rfl
theorem s_6_12 : Go d 6 12 [o0, o1, some (.int x)] (st) h Q = Go d 6 13 [o0, o1, some (.int x)] (.int x :: st) h Q := go_lo (E := (.iload_n 2, 0, 0, 0)) rfl rfl rfl
theorem s_6_13 : Go d 6 13 L (.int x :: st) h Q = Go d 6 14 L (.int (x.toInt8.toInt32) :: st) h Q := go_op (E := (.i2b, 0, 0, 0)) rfl rfl
theorem s_6_14_46 : Go d 6 14 L (.int y :: .int x :: .ref 46 :: st) (HP lx xs M) Q = (ex_in x 24 = true ∧ Go d 6 15 L (st) (HP lx xs (up M 46 x.toNatClampNeg y)) Q) := go_as rfl rfl (by decide) hs_46
theorem s_6_14_48 : Go d 6 14 L (.int y :: .int x :: .ref 48 :: st) (HP lx xs M) Q = (ex_in x 24 = true ∧ Go d 6 15 L (st) (HP lx xs (up M 48 x.toNatClampNeg y)) Q) := go_as rfl rfl (by decide) hs_48
theorem s_6_14_50 : Go d 6 14 L (.int y :: .int x :: .ref 50 :: st) (HP lx xs M) Q = (ex_in x 24 = true ∧ Go d 6 15 L (st) (HP lx xs (up M 50 x.toNatClampNeg y)) Q) := go_as rfl rfl (by decide) hs_50
theorem s_6_14_52 : Go d 6 14 L (.int y :: .int x :: .ref 52 :: st) (HP lx xs M) Q = (ex_in x 24 = true ∧ Go d 6 15 L (st) (HP lx xs (up M 52 x.toNatClampNeg y)) Q) := go_as rfl rfl (by decide) hs_52
theorem s_6_15 : Go d 6 15 L (st) h Q = Go d 6 44 L (st) h Q := go_goto rfl
theorem s_6_18 : Go d 6 18 [some (.ref r), o1, o2] (st) h Q = Go d 6 19 [some (.ref r), o1, o2] (.ref r :: st) h Q := go_lo (E := (.aload_n 0, 0, 0, 0)) rfl rfl rfl
theorem s_6_19_45 : Go d 6 19 L (.ref 45 :: st) (HP lx xs M) Q = Go d 6 22 L (.int (M 45 0) :: st) (HP lx xs M) Q := go_gf rfl rfl (by decide) rfl
theorem s_6_19_47 : Go d 6 19 L (.ref 47 :: st) (HP lx xs M) Q = Go d 6 22 L (.int (M 47 0) :: st) (HP lx xs M) Q := go_gf rfl rfl (by decide) rfl
theorem s_6_19_49 : Go d 6 19 L (.ref 49 :: st) (HP lx xs M) Q = Go d 6 22 L (.int (M 49 0) :: st) (HP lx xs M) Q := go_gf rfl rfl (by decide) rfl
theorem s_6_19_51 : Go d 6 19 L (.ref 51 :: st) (HP lx xs M) Q = Go d 6 22 L (.int (M 51 0) :: st) (HP lx xs M) Q := go_gf rfl rfl (by decide) rfl
theorem s_6_22 : Go d 6 22 L (st) h Q = Go d 6 23 L (.int (nI 1) :: st) h Q := go_ic rfl ci_i1
theorem s_6_23 : Go d 6 23 L (.int y :: .int x :: st) h Q = (if x = y then Go d 6 26 L st h Q else Go d 6 37 L st h Q) := go_icne rfl
theorem s_6_26 : Go d 6 26 [some (.ref r), o1, o2] (st) h Q = Go d 6 27 [some (.ref r), o1, o2] (.ref r :: st) h Q := go_lo (E := (.aload_n 0, 0, 0, 0)) rfl rfl rfl
theorem s_6_27_45 : Go d 6 27 L (.ref 45 :: st) (HP lx xs M) Q = Go d 6 30 L (.ref 46 :: st) (HP lx xs M) Q := go_gf rfl rfl (by decide) rfl
theorem s_6_27_47 : Go d 6 27 L (.ref 47 :: st) (HP lx xs M) Q = Go d 6 30 L (.ref 48 :: st) (HP lx xs M) Q := go_gf rfl rfl (by decide) rfl
theorem s_6_27_49 : Go d 6 27 L (.ref 49 :: st) (HP lx xs M) Q = Go d 6 30 L (.ref 50 :: st) (HP lx xs M) Q := go_gf rfl rfl (by decide) rfl
theorem s_6_27_51 : Go d 6 27 L (.ref 51 :: st) (HP lx xs M) Q = Go d 6 30 L (.ref 52 :: st) (HP lx xs M) Q := go_gf rfl rfl (by decide) rfl
theorem s_6_30 : Go d 6 30 [o0, some (.int x), o2] (st) h Q = Go d 6 31 [o0, some (.int x), o2] (.int x :: st) h Q := go_lo (E := (.iload_n 1, 0, 0, 0)) rfl rfl rfl
theorem s_6_31 : Go d 6 31 [o0, o1, some (.int x)] (st) h Q = Go d 6 32 [o0, o1, some (.int x)] (.int x :: st) h Q := go_lo (E := (.iload_n 2, 0, 0, 0)) rfl rfl rfl
theorem s_6_32 : Go d 6 32 L (.int x :: st) h Q = Go d 6 33 L (.int (x.toInt16.toInt32) :: st) h Q := go_op (E := (.i2s, 0, 0, 0)) rfl rfl
theorem s_6_33_46 : Go d 6 33 L (.int y :: .int x :: .ref 46 :: st) (HP lx xs M) Q = (ex_in x 24 = true ∧ Go d 6 34 L (st) (HP lx xs (up M 46 x.toNatClampNeg y)) Q) := go_as rfl rfl (by decide) hs_46
theorem s_6_33_48 : Go d 6 33 L (.int y :: .int x :: .ref 48 :: st) (HP lx xs M) Q = (ex_in x 24 = true ∧ Go d 6 34 L (st) (HP lx xs (up M 48 x.toNatClampNeg y)) Q) := go_as rfl rfl (by decide) hs_48
theorem s_6_33_50 : Go d 6 33 L (.int y :: .int x :: .ref 50 :: st) (HP lx xs M) Q = (ex_in x 24 = true ∧ Go d 6 34 L (st) (HP lx xs (up M 50 x.toNatClampNeg y)) Q) := go_as rfl rfl (by decide) hs_50
theorem s_6_33_52 : Go d 6 33 L (.int y :: .int x :: .ref 52 :: st) (HP lx xs M) Q = (ex_in x 24 = true ∧ Go d 6 34 L (st) (HP lx xs (up M 52 x.toNatClampNeg y)) Q) := go_as rfl rfl (by decide) hs_52
theorem s_6_34 : Go d 6 34 L (st) h Q = Go d 6 44 L (st) h Q := go_goto rfl
theorem s_6_37 : Go d 6 37 [some (.ref r), o1, o2] (st) h Q = Go d 6 38 [some (.ref r), o1, o2] (.ref r :: st) h Q := go_lo (E := (.aload_n 0, 0, 0, 0)) rfl rfl rfl
theorem s_6_38_45 : Go d 6 38 L (.ref 45 :: st) (HP lx xs M) Q = Go d 6 41 L (.ref 46 :: st) (HP lx xs M) Q := go_gf rfl rfl (by decide) rfl
theorem s_6_38_47 : Go d 6 38 L (.ref 47 :: st) (HP lx xs M) Q = Go d 6 41 L (.ref 48 :: st) (HP lx xs M) Q := go_gf rfl rfl (by decide) rfl
theorem s_6_38_49 : Go d 6 38 L (.ref 49 :: st) (HP lx xs M) Q = Go d 6 41 L (.ref 50 :: st) (HP lx xs M) Q := go_gf rfl rfl (by decide) rfl
theorem s_6_38_51 : Go d 6 38 L (.ref 51 :: st) (HP lx xs M) Q = Go d 6 41 L (.ref 52 :: st) (HP lx xs M) Q := go_gf rfl rfl (by decide) rfl
theorem s_6_41 : Go d 6 41 [o0, some (.int x), o2] (st) h Q = Go d 6 42 [o0, some (.int x), o2] (.int x :: st) h Q := go_lo (E := (.iload_n 1, 0, 0, 0)) rfl rfl rfl
theorem s_6_42 : Go d 6 42 [o0, o1, some (.int x)] (st) h Q = Go d 6 43 [o0, o1, some (.int x)] (.int x :: st) h Q := go_lo (E := (.iload_n 2, 0, 0, 0)) rfl rfl rfl
theorem s_6_43_46 : Go d 6 43 L (.int y :: .int x :: .ref 46 :: st) (HP lx xs M) Q = (ex_in x 24 = true ∧ Go d 6 44 L (st) (HP lx xs (up M 46 x.toNatClampNeg y)) Q) := go_as rfl rfl (by decide) hs_46
theorem s_6_43_48 : Go d 6 43 L (.int y :: .int x :: .ref 48 :: st) (HP lx xs M) Q = (ex_in x 24 = true ∧ Go d 6 44 L (st) (HP lx xs (up M 48 x.toNatClampNeg y)) Q) := go_as rfl rfl (by decide) hs_48
theorem s_6_43_50 : Go d 6 43 L (.int y :: .int x :: .ref 50 :: st) (HP lx xs M) Q = (ex_in x 24 = true ∧ Go d 6 44 L (st) (HP lx xs (up M 50 x.toNatClampNeg y)) Q) := go_as rfl rfl (by decide) hs_50
theorem s_6_43_52 : Go d 6 43 L (.int y :: .int x :: .ref 52 :: st) (HP lx xs M) Q = (ex_in x 24 = true ∧ Go d 6 44 L (st) (HP lx xs (up M 52 x.toNatClampNeg y)) Q) := go_as rfl rfl (by decide) hs_52
theorem s_6_44 : Go d 6 44 L [] h Q = Q none h := go_rv rfl rfl
theorem s_8_0 : Go d 8 0 [some (.ref r)] (st) h Q = Go d 8 1 [some (.ref r)] (.ref r :: st) h Q := go_lo (E := (.aload_n 0, 0, 0, 0)) rfl rfl rfl
theorem s_8_1 : Go d 8 1 L (st) h Q = Go d 8 2 L (.int (nI 0) :: st) h Q := go_ic rfl ci_i0
theorem s_8_2_8 : Go d 8 2 L (.int x :: .ref 8 :: st) (HP lx xs M) Q = Go d 8 5 L (st) (HP lx xs (up M 8 0 x)) Q := go_pf rfl rfl (by decide) (Nat.le_of_ble_eq_true rfl) rfl hf_8_0
theorem s_8_2_21 : Go d 8 2 L (.int x :: .ref 21 :: st) (HP lx xs M) Q = Go d 8 5 L (st) (HP lx xs (up M 21 0 x)) Q := go_pf rfl rfl (by decide) (Nat.le_of_ble_eq_true rfl) rfl hf_21_0
theorem s_8_2_31 : Go d 8 2 L (.int x :: .ref 31 :: st) (HP lx xs M) Q = Go d 8 5 L (st) (HP lx xs (up M 31 0 x)) Q := go_pf rfl rfl (by decide) (Nat.le_of_ble_eq_true rfl) rfl hf_31_0
theorem s_8_5 : Go d 8 5 [some (.ref r)] (st) h Q = Go d 8 6 [some (.ref r)] (.ref r :: st) h Q := go_lo (E := (.aload_n 0, 0, 0, 0)) rfl rfl rfl
theorem s_8_6 : Go d 8 6 L (st) h Q = Go d 8 7 L (.int (nI 0) :: st) h Q := go_ic rfl ci_i0
theorem s_8_7_8 : Go d 8 7 L (.int x :: .ref 8 :: st) (HP lx xs M) Q = Go d 8 10 L (st) (HP lx xs (up M 8 1 x)) Q := go_pf rfl rfl (by decide) (Nat.le_of_ble_eq_true rfl) rfl hf_8_1
theorem s_8_7_21 : Go d 8 7 L (.int x :: .ref 21 :: st) (HP lx xs M) Q = Go d 8 10 L (st) (HP lx xs (up M 21 1 x)) Q := go_pf rfl rfl (by decide) (Nat.le_of_ble_eq_true rfl) rfl hf_21_1
theorem s_8_7_31 : Go d 8 7 L (.int x :: .ref 31 :: st) (HP lx xs M) Q = Go d 8 10 L (st) (HP lx xs (up M 31 1 x)) Q := go_pf rfl rfl (by decide) (Nat.le_of_ble_eq_true rfl) rfl hf_31_1
theorem s_8_10 : Go d 8 10 L [] h Q = Q none h := go_rv rfl rfl
theorem s_9_0 : Go d 9 0 [some (.ref r)] (st) h Q = Go d 9 1 [some (.ref r)] (.ref r :: st) h Q := go_lo (E := (.aload_n 0, 0, 0, 0)) rfl rfl rfl
theorem s_9_1_8 : Go d 9 1 L (.ref 8 :: st) (HP lx xs M) Q = Go d 9 4 L (.int (M 8 0) :: st) (HP lx xs M) Q := go_gf rfl rfl (by decide) rfl
theorem s_9_1_21 : Go d 9 1 L (.ref 21 :: st) (HP lx xs M) Q = Go d 9 4 L (.int (M 21 0) :: st) (HP lx xs M) Q := go_gf rfl rfl (by decide) rfl
theorem s_9_1_31 : Go d 9 1 L (.ref 31 :: st) (HP lx xs M) Q = Go d 9 4 L (.int (M 31 0) :: st) (HP lx xs M) Q := go_gf rfl rfl (by decide) rfl
theorem s_9_4 : Go d 9 4 L (st) h Q = Go d 9 6 L (.int (nI 24) :: st) h Q := go_bi rfl ci_b24
theorem s_9_6 : Go d 9 6 L (.int y :: .int x :: st) h Q = (if x < y then Go d 9 13 L st h Q else Go d 9 9 L st h Q) := go_iclt rfl
theorem s_9_9 : Go d 9 9 L (st) h Q = Go d 9 10 L (.int (nI 1) :: st) h Q := go_ic rfl ci_i1
theorem s_9_10 : Go d 9 10 L (st) h Q = Go d 9 14 L (st) h Q := go_goto rfl
theorem s_9_13 : Go d 9 13 L (st) h Q = Go d 9 14 L (.int (nI 0) :: st) h Q := go_ic rfl ci_i0
theorem s_9_14_0 : Go d 9 14 L [.int (nI 0)] h Q = Q (some (.int (nI 0))) h := go_rz rfl rfl (by decide)
theorem s_9_14_1 : Go d 9 14 L [.int (nI 1)] h Q = Q (some (.int (nI 1))) h := go_rz rfl rfl (by decide)
theorem s_10_0 : Go d 10 0 [some (.ref r), o1, o2] (st) h Q = Go d 10 1 [some (.ref r), o1, o2] (.ref r :: st) h Q := go_lo (E := (.aload_n 0, 0, 0, 0)) rfl rfl rfl
theorem s_10_1_8  : Go (d + 1) 10 1 L [.ref 8] (HP lx xs M) Q = Go d 9 0 [some (.ref 8)] [] (HP lx xs M) (fun v h2 => Go (d + 1) 10 4 L (ap v []) h2 Q) := go_cx (E := (.invokevirtual 26, 9, 0, 0)) (k' := 9) (as := [.ref 8]) rfl rfl rfl rfl rfl rfl rfl rfl
theorem s_10_1_21  : Go (d + 1) 10 1 L [.ref 21] (HP lx xs M) Q = Go d 9 0 [some (.ref 21)] [] (HP lx xs M) (fun v h2 => Go (d + 1) 10 4 L (ap v []) h2 Q) := go_cx (E := (.invokevirtual 26, 9, 0, 0)) (k' := 9) (as := [.ref 21]) rfl rfl rfl rfl rfl rfl rfl rfl
theorem s_10_1_31  : Go (d + 1) 10 1 L [.ref 31] (HP lx xs M) Q = Go d 9 0 [some (.ref 31)] [] (HP lx xs M) (fun v h2 => Go (d + 1) 10 4 L (ap v []) h2 Q) := go_cx (E := (.invokevirtual 26, 9, 0, 0)) (k' := 9) (as := [.ref 31]) rfl rfl rfl rfl rfl rfl rfl rfl
theorem s_10_4 : Go d 10 4 L (.int x :: st) h Q = (if x = 0 then Go d 10 8 L st h Q else Go d 10 7 L st h Q) := go_ifeq rfl
theorem s_10_7 : Go d 10 7 L [] h Q = Q none h := go_rv rfl rfl
theorem s_10_8 : Go d 10 8 [some (.ref r), o1, o2] (st) h Q = Go d 10 9 [some (.ref r), o1, o2] (.ref r :: st) h Q := go_lo (E := (.aload_n 0, 0, 0, 0)) rfl rfl rfl
theorem s_10_9_8 : Go d 10 9 L (.ref 8 :: st) (HP lx xs M) Q = Go d 10 12 L (.ref 9 :: st) (HP lx xs M) Q := go_gf rfl rfl (by decide) rfl
theorem s_10_9_21 : Go d 10 9 L (.ref 21 :: st) (HP lx xs M) Q = Go d 10 12 L (.ref 22 :: st) (HP lx xs M) Q := go_gf rfl rfl (by decide) rfl
theorem s_10_9_31 : Go d 10 9 L (.ref 31 :: st) (HP lx xs M) Q = Go d 10 12 L (.ref 32 :: st) (HP lx xs M) Q := go_gf rfl rfl (by decide) rfl
theorem s_10_12 : Go d 10 12 [some (.ref r), o1, o2] (st) h Q = Go d 10 13 [some (.ref r), o1, o2] (.ref r :: st) h Q := go_lo (E := (.aload_n 0, 0, 0, 0)) rfl rfl rfl
theorem s_10_13_8 : Go d 10 13 L (.ref 8 :: st) (HP lx xs M) Q = Go d 10 16 L (.int (M 8 0) :: st) (HP lx xs M) Q := go_gf rfl rfl (by decide) rfl
theorem s_10_13_21 : Go d 10 13 L (.ref 21 :: st) (HP lx xs M) Q = Go d 10 16 L (.int (M 21 0) :: st) (HP lx xs M) Q := go_gf rfl rfl (by decide) rfl
theorem s_10_13_31 : Go d 10 13 L (.ref 31 :: st) (HP lx xs M) Q = Go d 10 16 L (.int (M 31 0) :: st) (HP lx xs M) Q := go_gf rfl rfl (by decide) rfl
theorem s_10_16 : Go d 10 16 [o0, some (.int x), o2] (st) h Q = Go d 10 17 [o0, some (.int x), o2] (.int x :: st) h Q := go_lo (E := (.iload_n 1, 0, 0, 0)) rfl rfl rfl
theorem s_10_17_9 : Go d 10 17 L (.int y :: .int x :: .ref 9 :: st) (HP lx xs M) Q = (ex_in x 24 = true ∧ Go d 10 18 L (st) (HP lx xs (up M 9 x.toNatClampNeg y)) Q) := go_as rfl rfl (by decide) hs_9
theorem s_10_17_22 : Go d 10 17 L (.int y :: .int x :: .ref 22 :: st) (HP lx xs M) Q = (ex_in x 24 = true ∧ Go d 10 18 L (st) (HP lx xs (up M 22 x.toNatClampNeg y)) Q) := go_as rfl rfl (by decide) hs_22
theorem s_10_17_32 : Go d 10 17 L (.int y :: .int x :: .ref 32 :: st) (HP lx xs M) Q = (ex_in x 24 = true ∧ Go d 10 18 L (st) (HP lx xs (up M 32 x.toNatClampNeg y)) Q) := go_as rfl rfl (by decide) hs_32
theorem s_10_18 : Go d 10 18 [some (.ref r), o1, o2] (st) h Q = Go d 10 19 [some (.ref r), o1, o2] (.ref r :: st) h Q := go_lo (E := (.aload_n 0, 0, 0, 0)) rfl rfl rfl
theorem s_10_19_8 : Go d 10 19 L (.ref 8 :: st) (HP lx xs M) Q = Go d 10 22 L (.ref 10 :: st) (HP lx xs M) Q := go_gf rfl rfl (by decide) rfl
theorem s_10_19_21 : Go d 10 19 L (.ref 21 :: st) (HP lx xs M) Q = Go d 10 22 L (.ref 23 :: st) (HP lx xs M) Q := go_gf rfl rfl (by decide) rfl
theorem s_10_19_31 : Go d 10 19 L (.ref 31 :: st) (HP lx xs M) Q = Go d 10 22 L (.ref 33 :: st) (HP lx xs M) Q := go_gf rfl rfl (by decide) rfl
theorem s_10_22 : Go d 10 22 [some (.ref r), o1, o2] (st) h Q = Go d 10 23 [some (.ref r), o1, o2] (.ref r :: st) h Q := go_lo (E := (.aload_n 0, 0, 0, 0)) rfl rfl rfl
theorem s_10_23_8 : Go d 10 23 L (.ref 8 :: st) (HP lx xs M) Q = Go d 10 26 L (.int (M 8 0) :: st) (HP lx xs M) Q := go_gf rfl rfl (by decide) rfl
theorem s_10_23_21 : Go d 10 23 L (.ref 21 :: st) (HP lx xs M) Q = Go d 10 26 L (.int (M 21 0) :: st) (HP lx xs M) Q := go_gf rfl rfl (by decide) rfl
theorem s_10_23_31 : Go d 10 23 L (.ref 31 :: st) (HP lx xs M) Q = Go d 10 26 L (.int (M 31 0) :: st) (HP lx xs M) Q := go_gf rfl rfl (by decide) rfl
theorem s_10_26 : Go d 10 26 [o0, o1, some (.int x)] (st) h Q = Go d 10 27 [o0, o1, some (.int x)] (.int x :: st) h Q := go_lo (E := (.iload_n 2, 0, 0, 0)) rfl rfl rfl
theorem s_10_27_10 : Go d 10 27 L (.int y :: .int x :: .ref 10 :: st) (HP lx xs M) Q = (ex_in x 24 = true ∧ Go d 10 28 L (st) (HP lx xs (up M 10 x.toNatClampNeg (vp_nar .boolean y))) Q) := go_bs2 rfl rfl (by decide) hs_10
theorem s_10_27_23 : Go d 10 27 L (.int y :: .int x :: .ref 23 :: st) (HP lx xs M) Q = (ex_in x 24 = true ∧ Go d 10 28 L (st) (HP lx xs (up M 23 x.toNatClampNeg (vp_nar .boolean y))) Q) := go_bs2 rfl rfl (by decide) hs_23
theorem s_10_27_33 : Go d 10 27 L (.int y :: .int x :: .ref 33 :: st) (HP lx xs M) Q = (ex_in x 24 = true ∧ Go d 10 28 L (st) (HP lx xs (up M 33 x.toNatClampNeg (vp_nar .boolean y))) Q) := go_bs2 rfl rfl (by decide) hs_33
theorem s_10_28 : Go d 10 28 [some (.ref r), o1, o2] (st) h Q = Go d 10 29 [some (.ref r), o1, o2] (.ref r :: st) h Q := go_lo (E := (.aload_n 0, 0, 0, 0)) rfl rfl rfl
theorem s_10_29 : Go d 10 29 L (.ref r :: st) h Q = Go d 10 30 L (.ref r :: .ref r :: st) h Q := go_op (E := (.dup, 0, 0, 0)) rfl rfl
theorem s_10_30_8 : Go d 10 30 L (.ref 8 :: st) (HP lx xs M) Q = Go d 10 33 L (.int (M 8 0) :: st) (HP lx xs M) Q := go_gf rfl rfl (by decide) rfl
theorem s_10_30_21 : Go d 10 30 L (.ref 21 :: st) (HP lx xs M) Q = Go d 10 33 L (.int (M 21 0) :: st) (HP lx xs M) Q := go_gf rfl rfl (by decide) rfl
theorem s_10_30_31 : Go d 10 30 L (.ref 31 :: st) (HP lx xs M) Q = Go d 10 33 L (.int (M 31 0) :: st) (HP lx xs M) Q := go_gf rfl rfl (by decide) rfl
theorem s_10_33 : Go d 10 33 L (st) h Q = Go d 10 34 L (.int (nI 1) :: st) h Q := go_ic rfl ci_i1
theorem s_10_34 : Go d 10 34 L (.int y :: .int x :: st) h Q = Go d 10 35 L (.int (x + y) :: st) h Q := go_op (E := (.iadd, 0, 0, 0)) rfl rfl
theorem s_10_35_8 : Go d 10 35 L (.int x :: .ref 8 :: st) (HP lx xs M) Q = Go d 10 38 L (st) (HP lx xs (up M 8 0 x)) Q := go_pf rfl rfl (by decide) (Nat.le_of_ble_eq_true rfl) rfl hf_8_0
theorem s_10_35_21 : Go d 10 35 L (.int x :: .ref 21 :: st) (HP lx xs M) Q = Go d 10 38 L (st) (HP lx xs (up M 21 0 x)) Q := go_pf rfl rfl (by decide) (Nat.le_of_ble_eq_true rfl) rfl hf_21_0
theorem s_10_35_31 : Go d 10 35 L (.int x :: .ref 31 :: st) (HP lx xs M) Q = Go d 10 38 L (st) (HP lx xs (up M 31 0 x)) Q := go_pf rfl rfl (by decide) (Nat.le_of_ble_eq_true rfl) rfl hf_31_0
theorem s_10_38 : Go d 10 38 [o0, o1, some (.int x)] (st) h Q = Go d 10 39 [o0, o1, some (.int x)] (.int x :: st) h Q := go_lo (E := (.iload_n 2, 0, 0, 0)) rfl rfl rfl
theorem s_10_39 : Go d 10 39 L (.int x :: st) h Q = (if x = 0 then Go d 10 52 L st h Q else Go d 10 42 L st h Q) := go_ifeq rfl
theorem s_10_42 : Go d 10 42 [some (.ref r), o1, o2] (st) h Q = Go d 10 43 [some (.ref r), o1, o2] (.ref r :: st) h Q := go_lo (E := (.aload_n 0, 0, 0, 0)) rfl rfl rfl
theorem s_10_43 : Go d 10 43 L (.ref r :: st) h Q = Go d 10 44 L (.ref r :: .ref r :: st) h Q := go_op (E := (.dup, 0, 0, 0)) rfl rfl
theorem s_10_44_8 : Go d 10 44 L (.ref 8 :: st) (HP lx xs M) Q = Go d 10 47 L (.int (M 8 1) :: st) (HP lx xs M) Q := go_gf rfl rfl (by decide) rfl
theorem s_10_44_21 : Go d 10 44 L (.ref 21 :: st) (HP lx xs M) Q = Go d 10 47 L (.int (M 21 1) :: st) (HP lx xs M) Q := go_gf rfl rfl (by decide) rfl
theorem s_10_44_31 : Go d 10 44 L (.ref 31 :: st) (HP lx xs M) Q = Go d 10 47 L (.int (M 31 1) :: st) (HP lx xs M) Q := go_gf rfl rfl (by decide) rfl
theorem s_10_47 : Go d 10 47 L (st) h Q = Go d 10 48 L (.int (nI 1) :: st) h Q := go_ic rfl ci_i1
theorem s_10_48 : Go d 10 48 L (.int y :: .int x :: st) h Q = Go d 10 49 L (.int (x + y) :: st) h Q := go_op (E := (.iadd, 0, 0, 0)) rfl rfl
theorem s_10_49_8 : Go d 10 49 L (.int x :: .ref 8 :: st) (HP lx xs M) Q = Go d 10 52 L (st) (HP lx xs (up M 8 1 x)) Q := go_pf rfl rfl (by decide) (Nat.le_of_ble_eq_true rfl) rfl hf_8_1
theorem s_10_49_21 : Go d 10 49 L (.int x :: .ref 21 :: st) (HP lx xs M) Q = Go d 10 52 L (st) (HP lx xs (up M 21 1 x)) Q := go_pf rfl rfl (by decide) (Nat.le_of_ble_eq_true rfl) rfl hf_21_1
theorem s_10_49_31 : Go d 10 49 L (.int x :: .ref 31 :: st) (HP lx xs M) Q = Go d 10 52 L (st) (HP lx xs (up M 31 1 x)) Q := go_pf rfl rfl (by decide) (Nat.le_of_ble_eq_true rfl) rfl hf_31_1
theorem s_10_52 : Go d 10 52 L [] h Q = Q none h := go_rv rfl rfl
theorem s_11_0 : Go d 11 0 [some (.ref r), o1, o2] (st) h Q = Go d 11 1 [some (.ref r), o1, o2] (.ref r :: st) h Q := go_lo (E := (.aload_n 0, 0, 0, 0)) rfl rfl rfl
theorem s_11_1_8  : Go (d + 1) 11 1 L [.ref 8] (HP lx xs M) Q = Go d 8 0 [some (.ref 8)] [] (HP lx xs M) (fun v h2 => Go (d + 1) 11 4 L (ap v []) h2 Q) := go_cx (E := (.invokevirtual 30, 8, 0, 0)) (k' := 8) (as := [.ref 8]) rfl rfl rfl rfl rfl rfl rfl rfl
theorem s_11_1_21  : Go (d + 1) 11 1 L [.ref 21] (HP lx xs M) Q = Go d 8 0 [some (.ref 21)] [] (HP lx xs M) (fun v h2 => Go (d + 1) 11 4 L (ap v []) h2 Q) := go_cx (E := (.invokevirtual 30, 8, 0, 0)) (k' := 8) (as := [.ref 21]) rfl rfl rfl rfl rfl rfl rfl rfl
theorem s_11_4 : Go d 11 4 L (st) h Q = Go d 11 5 L (.int (nI 0) :: st) h Q := go_ic rfl ci_i0
theorem s_11_5 : Go d 11 5 [o0, o1, o2] (.int x :: st) h Q = Go d 11 6 [o0, o1, some (.int x)] (st) h Q := go_lo (E := (.istore_n 2, 0, 0, 0)) rfl rfl rfl
theorem s_11_6 : Go d 11 6 [o0, o1, some (.int x)] (st) h Q = Go d 11 7 [o0, o1, some (.int x)] (.int x :: st) h Q := go_lo (E := (.iload_n 2, 0, 0, 0)) rfl rfl rfl
theorem s_11_7 : Go d 11 7 [o0, some (.ref r), o2] (st) h Q = Go d 11 8 [o0, some (.ref r), o2] (.ref r :: st) h Q := go_lo (E := (.aload_n 1, 0, 0, 0)) rfl rfl rfl
theorem s_11_8_8 : Go d 11 8 L (.ref 8 :: st) (HP lx xs M) Q = Go d 11 11 L (.int (M 8 0) :: st) (HP lx xs M) Q := go_gf rfl rfl (by decide) rfl
theorem s_11_8_21 : Go d 11 8 L (.ref 21 :: st) (HP lx xs M) Q = Go d 11 11 L (.int (M 21 0) :: st) (HP lx xs M) Q := go_gf rfl rfl (by decide) rfl
theorem s_11_8_31 : Go d 11 8 L (.ref 31 :: st) (HP lx xs M) Q = Go d 11 11 L (.int (M 31 0) :: st) (HP lx xs M) Q := go_gf rfl rfl (by decide) rfl
theorem s_11_11 : Go d 11 11 L (.int y :: .int x :: st) h Q = (if x < y then Go d 11 14 L st h Q else Go d 11 36 L st h Q) := go_icge rfl
theorem s_11_14 : Go d 11 14 [some (.ref r), o1, o2] (st) h Q = Go d 11 15 [some (.ref r), o1, o2] (.ref r :: st) h Q := go_lo (E := (.aload_n 0, 0, 0, 0)) rfl rfl rfl
theorem s_11_15 : Go d 11 15 [o0, some (.ref r), o2] (st) h Q = Go d 11 16 [o0, some (.ref r), o2] (.ref r :: st) h Q := go_lo (E := (.aload_n 1, 0, 0, 0)) rfl rfl rfl
theorem s_11_16_8 : Go d 11 16 L (.ref 8 :: st) (HP lx xs M) Q = Go d 11 19 L (.ref 9 :: st) (HP lx xs M) Q := go_gf rfl rfl (by decide) rfl
theorem s_11_16_21 : Go d 11 16 L (.ref 21 :: st) (HP lx xs M) Q = Go d 11 19 L (.ref 22 :: st) (HP lx xs M) Q := go_gf rfl rfl (by decide) rfl
theorem s_11_16_31 : Go d 11 16 L (.ref 31 :: st) (HP lx xs M) Q = Go d 11 19 L (.ref 32 :: st) (HP lx xs M) Q := go_gf rfl rfl (by decide) rfl
theorem s_11_19 : Go d 11 19 [o0, o1, some (.int x)] (st) h Q = Go d 11 20 [o0, o1, some (.int x)] (.int x :: st) h Q := go_lo (E := (.iload_n 2, 0, 0, 0)) rfl rfl rfl
theorem s_11_20_9 : Go d 11 20 L (.int x :: .ref 9 :: st) (HP lx xs M) Q = (ex_in x 24 = true ∧ Go d 11 21 L (.int (M 9 x.toNatClampNeg) :: st) (HP lx xs M) Q) := go_al rfl rfl
theorem s_11_20_22 : Go d 11 20 L (.int x :: .ref 22 :: st) (HP lx xs M) Q = (ex_in x 24 = true ∧ Go d 11 21 L (.int (M 22 x.toNatClampNeg) :: st) (HP lx xs M) Q) := go_al rfl rfl
theorem s_11_20_32 : Go d 11 20 L (.int x :: .ref 32 :: st) (HP lx xs M) Q = (ex_in x 24 = true ∧ Go d 11 21 L (.int (M 32 x.toNatClampNeg) :: st) (HP lx xs M) Q) := go_al rfl rfl
theorem s_11_21 : Go d 11 21 [o0, some (.ref r), o2] (st) h Q = Go d 11 22 [o0, some (.ref r), o2] (.ref r :: st) h Q := go_lo (E := (.aload_n 1, 0, 0, 0)) rfl rfl rfl
theorem s_11_22_8 : Go d 11 22 L (.ref 8 :: st) (HP lx xs M) Q = Go d 11 25 L (.ref 10 :: st) (HP lx xs M) Q := go_gf rfl rfl (by decide) rfl
theorem s_11_22_21 : Go d 11 22 L (.ref 21 :: st) (HP lx xs M) Q = Go d 11 25 L (.ref 23 :: st) (HP lx xs M) Q := go_gf rfl rfl (by decide) rfl
theorem s_11_22_31 : Go d 11 22 L (.ref 31 :: st) (HP lx xs M) Q = Go d 11 25 L (.ref 33 :: st) (HP lx xs M) Q := go_gf rfl rfl (by decide) rfl
theorem s_11_25 : Go d 11 25 [o0, o1, some (.int x)] (st) h Q = Go d 11 26 [o0, o1, some (.int x)] (.int x :: st) h Q := go_lo (E := (.iload_n 2, 0, 0, 0)) rfl rfl rfl
theorem s_11_26_10 : Go d 11 26 L (.int x :: .ref 10 :: st) (HP lx xs M) Q = (ex_in x 24 = true ∧ Go d 11 27 L (.int (M 10 x.toNatClampNeg) :: st) (HP lx xs M) Q) := go_bl rfl rfl (by decide) (by decide)
theorem s_11_26_23 : Go d 11 26 L (.int x :: .ref 23 :: st) (HP lx xs M) Q = (ex_in x 24 = true ∧ Go d 11 27 L (.int (M 23 x.toNatClampNeg) :: st) (HP lx xs M) Q) := go_bl rfl rfl (by decide) (by decide)
theorem s_11_26_33 : Go d 11 26 L (.int x :: .ref 33 :: st) (HP lx xs M) Q = (ex_in x 24 = true ∧ Go d 11 27 L (.int (M 33 x.toNatClampNeg) :: st) (HP lx xs M) Q) := go_bl rfl rfl (by decide) (by decide)
theorem s_11_27_8 {a1 : Int32} {a2 : Int32} : Go (d + 1) 11 27 L [.int a2, .int a1, .ref 8] (HP lx xs M) Q = Go d 10 0 [some (.ref 8), some (.int a1), some (.int a2)] [] (HP lx xs M) (fun v h2 => Go (d + 1) 11 30 L (ap v []) h2 Q) := go_cx (E := (.invokevirtual 33, 10, 0, 0)) (k' := 10) (as := [.ref 8, .int a1, .int a2]) rfl rfl rfl rfl rfl rfl rfl rfl
theorem s_11_27_21 {a1 : Int32} {a2 : Int32} : Go (d + 1) 11 27 L [.int a2, .int a1, .ref 21] (HP lx xs M) Q = Go d 10 0 [some (.ref 21), some (.int a1), some (.int a2)] [] (HP lx xs M) (fun v h2 => Go (d + 1) 11 30 L (ap v []) h2 Q) := go_cx (E := (.invokevirtual 33, 10, 0, 0)) (k' := 10) (as := [.ref 21, .int a1, .int a2]) rfl rfl rfl rfl rfl rfl rfl rfl
theorem s_11_30 : Go d 11 30 [o0, o1, some (.int x)] (st) h Q = Go d 11 33 [o0, o1, some (.int (x + nI 1))] (st) h Q := (ci_i1 ▸ go_lo (E := (.iinc 2 1, 0, 0, 0)) rfl rfl rfl : _ = Go d 11 33 [o0, o1, some (.int (x + nI 1))] (st) h Q)
theorem s_11_33 : Go d 11 33 L (st) h Q = Go d 11 6 L (st) h Q := go_goto rfl
theorem s_11_36 : Go d 11 36 L [] h Q = Q none h := go_rv rfl rfl
theorem s_12_0 : Go d 12 0 [some (.int x)] (st) h Q = Go d 12 1 [some (.int x)] (.int x :: st) h Q := go_lo (E := (.iload_n 0, 0, 0, 0)) rfl rfl rfl
theorem s_12_1 : Go d 12 1 [some (.int x)] (st) h Q = Go d 12 2 [some (.int x)] (.int x :: st) h Q := go_lo (E := (.iload_n 0, 0, 0, 0)) rfl rfl rfl
theorem s_12_2 : Go d 12 2 L (st) h Q = Go d 12 3 L (.int (nI 1) :: st) h Q := go_ic rfl ci_i1
theorem s_12_3 : Go d 12 3 L (.int y :: .int x :: st) h Q = Go d 12 4 L (.int ((x.toUInt32 >>> (y.toUInt32 &&& Int32.toUInt32 31)).toInt32) :: st) h Q := go_op (E := (.iushr, 0, 0, 0)) rfl rfl
theorem s_12_4 : Go d 12 4 L (st) h Q = Go d 12 7 L (.int (nI 1431655765) :: st) h Q := go_ldw rfl ci_i1431655765
theorem s_12_7 : Go d 12 7 L (.int y :: .int x :: st) h Q = Go d 12 8 L (.int (x &&& y) :: st) h Q := go_op (E := (.iand, 0, 0, 0)) rfl rfl
theorem s_12_8 : Go d 12 8 L (.int y :: .int x :: st) h Q = Go d 12 9 L (.int (x - y) :: st) h Q := go_op (E := (.isub, 0, 0, 0)) rfl rfl
theorem s_12_9 : Go d 12 9 [o0] (.int x :: st) h Q = Go d 12 10 [some (.int x)] (st) h Q := go_lo (E := (.istore_n 0, 0, 0, 0)) rfl rfl rfl
theorem s_12_10 : Go d 12 10 [some (.int x)] (st) h Q = Go d 12 11 [some (.int x)] (.int x :: st) h Q := go_lo (E := (.iload_n 0, 0, 0, 0)) rfl rfl rfl
theorem s_12_11 : Go d 12 11 L (st) h Q = Go d 12 14 L (.int (nI 858993459) :: st) h Q := go_ldw rfl ci_i858993459
theorem s_12_14 : Go d 12 14 L (.int y :: .int x :: st) h Q = Go d 12 15 L (.int (x &&& y) :: st) h Q := go_op (E := (.iand, 0, 0, 0)) rfl rfl
theorem s_12_15 : Go d 12 15 [some (.int x)] (st) h Q = Go d 12 16 [some (.int x)] (.int x :: st) h Q := go_lo (E := (.iload_n 0, 0, 0, 0)) rfl rfl rfl
theorem s_12_16 : Go d 12 16 L (st) h Q = Go d 12 17 L (.int (nI 2) :: st) h Q := go_ic rfl ci_i2
theorem s_12_17 : Go d 12 17 L (.int y :: .int x :: st) h Q = Go d 12 18 L (.int ((x.toUInt32 >>> (y.toUInt32 &&& Int32.toUInt32 31)).toInt32) :: st) h Q := go_op (E := (.iushr, 0, 0, 0)) rfl rfl
theorem s_12_18 : Go d 12 18 L (st) h Q = Go d 12 21 L (.int (nI 858993459) :: st) h Q := go_ldw rfl ci_i858993459
theorem s_12_21 : Go d 12 21 L (.int y :: .int x :: st) h Q = Go d 12 22 L (.int (x &&& y) :: st) h Q := go_op (E := (.iand, 0, 0, 0)) rfl rfl
theorem s_12_22 : Go d 12 22 L (.int y :: .int x :: st) h Q = Go d 12 23 L (.int (x + y) :: st) h Q := go_op (E := (.iadd, 0, 0, 0)) rfl rfl
theorem s_12_23 : Go d 12 23 [o0] (.int x :: st) h Q = Go d 12 24 [some (.int x)] (st) h Q := go_lo (E := (.istore_n 0, 0, 0, 0)) rfl rfl rfl
theorem s_12_24 : Go d 12 24 [some (.int x)] (st) h Q = Go d 12 25 [some (.int x)] (.int x :: st) h Q := go_lo (E := (.iload_n 0, 0, 0, 0)) rfl rfl rfl
theorem s_12_25 : Go d 12 25 [some (.int x)] (st) h Q = Go d 12 26 [some (.int x)] (.int x :: st) h Q := go_lo (E := (.iload_n 0, 0, 0, 0)) rfl rfl rfl
theorem s_12_26 : Go d 12 26 L (st) h Q = Go d 12 27 L (.int (nI 4) :: st) h Q := go_ic rfl ci_i4
theorem s_12_27 : Go d 12 27 L (.int y :: .int x :: st) h Q = Go d 12 28 L (.int ((x.toUInt32 >>> (y.toUInt32 &&& Int32.toUInt32 31)).toInt32) :: st) h Q := go_op (E := (.iushr, 0, 0, 0)) rfl rfl
theorem s_12_28 : Go d 12 28 L (.int y :: .int x :: st) h Q = Go d 12 29 L (.int (x + y) :: st) h Q := go_op (E := (.iadd, 0, 0, 0)) rfl rfl
theorem s_12_29 : Go d 12 29 L (st) h Q = Go d 12 32 L (.int (nI 252645135) :: st) h Q := go_ldw rfl ci_i252645135
theorem s_12_32 : Go d 12 32 L (.int y :: .int x :: st) h Q = Go d 12 33 L (.int (x &&& y) :: st) h Q := go_op (E := (.iand, 0, 0, 0)) rfl rfl
theorem s_12_33 : Go d 12 33 [o0] (.int x :: st) h Q = Go d 12 34 [some (.int x)] (st) h Q := go_lo (E := (.istore_n 0, 0, 0, 0)) rfl rfl rfl
theorem s_12_34 : Go d 12 34 [some (.int x)] (st) h Q = Go d 12 35 [some (.int x)] (.int x :: st) h Q := go_lo (E := (.iload_n 0, 0, 0, 0)) rfl rfl rfl
theorem s_12_35 : Go d 12 35 [some (.int x)] (st) h Q = Go d 12 36 [some (.int x)] (.int x :: st) h Q := go_lo (E := (.iload_n 0, 0, 0, 0)) rfl rfl rfl
theorem s_12_36 : Go d 12 36 L (st) h Q = Go d 12 38 L (.int (nI 8) :: st) h Q := go_bi rfl ci_b8
theorem s_12_38 : Go d 12 38 L (.int y :: .int x :: st) h Q = Go d 12 39 L (.int ((x.toUInt32 >>> (y.toUInt32 &&& Int32.toUInt32 31)).toInt32) :: st) h Q := go_op (E := (.iushr, 0, 0, 0)) rfl rfl
theorem s_12_39 : Go d 12 39 L (.int y :: .int x :: st) h Q = Go d 12 40 L (.int (x + y) :: st) h Q := go_op (E := (.iadd, 0, 0, 0)) rfl rfl
theorem s_12_40 : Go d 12 40 [o0] (.int x :: st) h Q = Go d 12 41 [some (.int x)] (st) h Q := go_lo (E := (.istore_n 0, 0, 0, 0)) rfl rfl rfl
theorem s_12_41 : Go d 12 41 [some (.int x)] (st) h Q = Go d 12 42 [some (.int x)] (.int x :: st) h Q := go_lo (E := (.iload_n 0, 0, 0, 0)) rfl rfl rfl
theorem s_12_42 : Go d 12 42 [some (.int x)] (st) h Q = Go d 12 43 [some (.int x)] (.int x :: st) h Q := go_lo (E := (.iload_n 0, 0, 0, 0)) rfl rfl rfl
theorem s_12_43 : Go d 12 43 L (st) h Q = Go d 12 45 L (.int (nI 16) :: st) h Q := go_bi rfl ci_b16
theorem s_12_45 : Go d 12 45 L (.int y :: .int x :: st) h Q = Go d 12 46 L (.int ((x.toUInt32 >>> (y.toUInt32 &&& Int32.toUInt32 31)).toInt32) :: st) h Q := go_op (E := (.iushr, 0, 0, 0)) rfl rfl
theorem s_12_46 : Go d 12 46 L (.int y :: .int x :: st) h Q = Go d 12 47 L (.int (x + y) :: st) h Q := go_op (E := (.iadd, 0, 0, 0)) rfl rfl
theorem s_12_47 : Go d 12 47 [o0] (.int x :: st) h Q = Go d 12 48 [some (.int x)] (st) h Q := go_lo (E := (.istore_n 0, 0, 0, 0)) rfl rfl rfl
theorem s_12_48 : Go d 12 48 [some (.int x)] (st) h Q = Go d 12 49 [some (.int x)] (.int x :: st) h Q := go_lo (E := (.iload_n 0, 0, 0, 0)) rfl rfl rfl
theorem s_12_49 : Go d 12 49 L (st) h Q = Go d 12 51 L (.int (nI 63) :: st) h Q := go_bi rfl ci_b63
theorem s_12_51 : Go d 12 51 L (.int y :: .int x :: st) h Q = Go d 12 52 L (.int (x &&& y) :: st) h Q := go_op (E := (.iand, 0, 0, 0)) rfl rfl
theorem s_12_52 : Go d 12 52 L [.int x] h Q = Q (some (.int x)) h := go_ri rfl rfl
theorem s_13_0 : Go d 13 0 L (st) h Q = Go d 13 1 L (.int (nI 0) :: st) h Q := go_ic rfl ci_i0
theorem s_13_1 : Go d 13 1 [o0, o1, o2, o3] (.int x :: st) h Q = Go d 13 2 [o0, o1, some (.int x), o3] (st) h Q := go_lo (E := (.istore_n 2, 0, 0, 0)) rfl rfl rfl
theorem s_13_2 : Go d 13 2 [some (.ref r), o1, o2, o3] (st) h Q = Go d 13 3 [some (.ref r), o1, o2, o3] (.ref r :: st) h Q := go_lo (E := (.aload_n 0, 0, 0, 0)) rfl rfl rfl
theorem s_13_3_37 : Go d 13 3 L (.ref 37 :: st) (HP lx xs M) Q = Go d 13 4 L (.int (nI 6) :: st) (HP lx xs M) Q := go_len rfl rfl
theorem s_13_3_43 : Go d 13 3 L (.ref 43 :: st) (HP lx xs M) Q = Go d 13 4 L (.int (nI 6) :: st) (HP lx xs M) Q := go_len rfl rfl
theorem s_13_3_46 : Go d 13 3 L (.ref 46 :: st) (HP lx xs M) Q = Go d 13 4 L (.int (nI 24) :: st) (HP lx xs M) Q := go_len rfl rfl
theorem s_13_3_48 : Go d 13 3 L (.ref 48 :: st) (HP lx xs M) Q = Go d 13 4 L (.int (nI 24) :: st) (HP lx xs M) Q := go_len rfl rfl
theorem s_13_3_50 : Go d 13 3 L (.ref 50 :: st) (HP lx xs M) Q = Go d 13 4 L (.int (nI 24) :: st) (HP lx xs M) Q := go_len rfl rfl
theorem s_13_3_52 : Go d 13 3 L (.ref 52 :: st) (HP lx xs M) Q = Go d 13 4 L (.int (nI 24) :: st) (HP lx xs M) Q := go_len rfl rfl
theorem s_13_4 : Go d 13 4 [o0, o1, o2, o3] (.int x :: st) h Q = Go d 13 5 [o0, o1, o2, some (.int x)] (st) h Q := go_lo (E := (.istore_n 3, 0, 0, 0)) rfl rfl rfl
theorem s_13_5 : Go d 13 5 [o0, o1, some (.int x), o3] (st) h Q = Go d 13 6 [o0, o1, some (.int x), o3] (.int x :: st) h Q := go_lo (E := (.iload_n 2, 0, 0, 0)) rfl rfl rfl
theorem s_13_6 : Go d 13 6 [o0, o1, o2, some (.int x)] (st) h Q = Go d 13 7 [o0, o1, o2, some (.int x)] (.int x :: st) h Q := go_lo (E := (.iload_n 3, 0, 0, 0)) rfl rfl rfl
theorem s_13_7 : Go d 13 7 L (.int y :: .int x :: st) h Q = (if x < y then Go d 13 10 L st h Q else Go d 13 20 L st h Q) := go_icge rfl
theorem s_13_10 : Go d 13 10 [some (.ref r), o1, o2, o3] (st) h Q = Go d 13 11 [some (.ref r), o1, o2, o3] (.ref r :: st) h Q := go_lo (E := (.aload_n 0, 0, 0, 0)) rfl rfl rfl
theorem s_13_11 : Go d 13 11 [o0, o1, some (.int x), o3] (st) h Q = Go d 13 12 [o0, o1, some (.int x), o3] (.int x :: st) h Q := go_lo (E := (.iload_n 2, 0, 0, 0)) rfl rfl rfl
theorem s_13_12 : Go d 13 12 [o0, some (.int x), o2, o3] (st) h Q = Go d 13 13 [o0, some (.int x), o2, o3] (.int x :: st) h Q := go_lo (E := (.iload_n 1, 0, 0, 0)) rfl rfl rfl
theorem s_13_13_37 : Go d 13 13 L (.int y :: .int x :: .ref 37 :: st) (HP lx xs M) Q = (ex_in x 6 = true ∧ Go d 13 14 L (st) (HP lx xs (up M 37 x.toNatClampNeg y)) Q) := go_as rfl rfl (by decide) hs_37
theorem s_13_13_43 : Go d 13 13 L (.int y :: .int x :: .ref 43 :: st) (HP lx xs M) Q = (ex_in x 6 = true ∧ Go d 13 14 L (st) (HP lx xs (up M 43 x.toNatClampNeg y)) Q) := go_as rfl rfl (by decide) hs_43
theorem s_13_13_46 : Go d 13 13 L (.int y :: .int x :: .ref 46 :: st) (HP lx xs M) Q = (ex_in x 24 = true ∧ Go d 13 14 L (st) (HP lx xs (up M 46 x.toNatClampNeg y)) Q) := go_as rfl rfl (by decide) hs_46
theorem s_13_13_48 : Go d 13 13 L (.int y :: .int x :: .ref 48 :: st) (HP lx xs M) Q = (ex_in x 24 = true ∧ Go d 13 14 L (st) (HP lx xs (up M 48 x.toNatClampNeg y)) Q) := go_as rfl rfl (by decide) hs_48
theorem s_13_13_50 : Go d 13 13 L (.int y :: .int x :: .ref 50 :: st) (HP lx xs M) Q = (ex_in x 24 = true ∧ Go d 13 14 L (st) (HP lx xs (up M 50 x.toNatClampNeg y)) Q) := go_as rfl rfl (by decide) hs_50
theorem s_13_13_52 : Go d 13 13 L (.int y :: .int x :: .ref 52 :: st) (HP lx xs M) Q = (ex_in x 24 = true ∧ Go d 13 14 L (st) (HP lx xs (up M 52 x.toNatClampNeg y)) Q) := go_as rfl rfl (by decide) hs_52
theorem s_13_14 : Go d 13 14 [o0, o1, some (.int x), o3] (st) h Q = Go d 13 17 [o0, o1, some (.int (x + nI 1)), o3] (st) h Q := (ci_i1 ▸ go_lo (E := (.iinc 2 1, 0, 0, 0)) rfl rfl rfl : _ = Go d 13 17 [o0, o1, some (.int (x + nI 1)), o3] (st) h Q)
theorem s_13_17 : Go d 13 17 L (st) h Q = Go d 13 5 L (st) h Q := go_goto rfl
theorem s_13_20 : Go d 13 20 L [] h Q = Q none h := go_rv rfl rfl
theorem s_14_0 : Go d 14 0 L (st) h Q = Go d 14 1 L (.int (nI 0) :: st) h Q := go_ic rfl ci_i0
theorem s_14_1 : Go d 14 1 [o0, o1, o2, o3] (.int x :: st) h Q = Go d 14 2 [o0, o1, some (.int x), o3] (st) h Q := go_lo (E := (.istore_n 2, 0, 0, 0)) rfl rfl rfl
theorem s_14_2 : Go d 14 2 [some (.ref r), o1, o2, o3] (st) h Q = Go d 14 3 [some (.ref r), o1, o2, o3] (.ref r :: st) h Q := go_lo (E := (.aload_n 0, 0, 0, 0)) rfl rfl rfl
theorem s_14_3 : Go d 14 3 L (.ref 41 :: st) (HP lx xs M) Q = Go d 14 4 L (.int (nI 4096) :: st) (HP lx xs M) Q := go_len1 rfl rfl (by decide)
theorem s_14_4 : Go d 14 4 [o0, o1, o2, o3] (.int x :: st) h Q = Go d 14 5 [o0, o1, o2, some (.int x)] (st) h Q := go_lo (E := (.istore_n 3, 0, 0, 0)) rfl rfl rfl
theorem s_14_5 : Go d 14 5 [o0, o1, some (.int x), o3] (st) h Q = Go d 14 6 [o0, o1, some (.int x), o3] (.int x :: st) h Q := go_lo (E := (.iload_n 2, 0, 0, 0)) rfl rfl rfl
theorem s_14_6 : Go d 14 6 [o0, o1, o2, some (.int x)] (st) h Q = Go d 14 7 [o0, o1, o2, some (.int x)] (.int x :: st) h Q := go_lo (E := (.iload_n 3, 0, 0, 0)) rfl rfl rfl
theorem s_14_7 : Go d 14 7 L (.int y :: .int x :: st) h Q = (if x < y then Go d 14 10 L st h Q else Go d 14 20 L st h Q) := go_icge rfl
theorem s_14_10 : Go d 14 10 [some (.ref r), o1, o2, o3] (st) h Q = Go d 14 11 [some (.ref r), o1, o2, o3] (.ref r :: st) h Q := go_lo (E := (.aload_n 0, 0, 0, 0)) rfl rfl rfl
theorem s_14_11 : Go d 14 11 [o0, o1, some (.int x), o3] (st) h Q = Go d 14 12 [o0, o1, some (.int x), o3] (.int x :: st) h Q := go_lo (E := (.iload_n 2, 0, 0, 0)) rfl rfl rfl
theorem s_14_12 : Go d 14 12 [o0, some (.int x), o2, o3] (st) h Q = Go d 14 13 [o0, some (.int x), o2, o3] (.int x :: st) h Q := go_lo (E := (.iload_n 1, 0, 0, 0)) rfl rfl rfl
theorem s_14_13 : Go d 14 13 L (.int y :: .int x :: .ref 41 :: st) (HP lx xs M) Q = (ex_in x 4096 = true ∧ Go d 14 14 L (st) (HP lx xs (up M 41 x.toNatClampNeg (vp_nar .byte y))) Q) := go_bs1 rfl rfl (by decide) hs_41
theorem s_14_14 : Go d 14 14 [o0, o1, some (.int x), o3] (st) h Q = Go d 14 17 [o0, o1, some (.int (x + nI 1)), o3] (st) h Q := (ci_i1 ▸ go_lo (E := (.iinc 2 1, 0, 0, 0)) rfl rfl rfl : _ = Go d 14 17 [o0, o1, some (.int (x + nI 1)), o3] (st) h Q)
theorem s_14_17 : Go d 14 17 L (st) h Q = Go d 14 5 L (st) h Q := go_goto rfl
theorem s_14_20 : Go d 14 20 L [] h Q = Q none h := go_rv rfl rfl
theorem s_16_0 : Go d 16 0 [o0, some (.int x)] (st) h Q = Go d 16 1 [o0, some (.int x)] (.int x :: st) h Q := go_lo (E := (.iload_n 1, 0, 0, 0)) rfl rfl rfl
theorem s_16_1 : Go d 16 1 L (.int x :: st) h Q = (if x < 0 then Go d 16 9 L st h Q else Go d 16 4 L st h Q) := go_iflt rfl
theorem s_16_4 : Go d 16 4 [o0, some (.int x)] (st) h Q = Go d 16 5 [o0, some (.int x)] (.int x :: st) h Q := go_lo (E := (.iload_n 1, 0, 0, 0)) rfl rfl rfl
theorem s_16_5 : Go d 16 5 L (st) h Q = Go d 16 6 L (.int (nI 4) :: st) h Q := go_ic rfl ci_i4
theorem s_16_6 : Go d 16 6 L (.int y :: .int x :: st) h Q = (if x < y then Go d 16 11 L st h Q else Go d 16 9 L st h Q) := go_iclt rfl
theorem s_16_9 : Go d 16 9 L (st) h Q = Go d 16 10 L (.int (-1) :: st) h Q := go_ic rfl ci_im1
theorem s_16_10 : Go d 16 10 L [.int x] h Q = Q (some (.int x)) h := go_ri rfl rfl
theorem s_16_11 : Go d 16 11 [some (.ref r), o1] (st) h Q = Go d 16 12 [some (.ref r), o1] (.ref r :: st) h Q := go_lo (E := (.aload_n 0, 0, 0, 0)) rfl rfl rfl
theorem s_16_12 : Go d 16 12 L (.ref 1 :: st) (HP lx xs M) Q = Go d 16 15 L (.ref 2 :: st) (HP lx xs M) Q := go_gf rfl rfl (by decide) rfl
theorem s_16_15 : Go d 16 15 [o0, some (.int x)] (st) h Q = Go d 16 16 [o0, some (.int x)] (.int x :: st) h Q := go_lo (E := (.iload_n 1, 0, 0, 0)) rfl rfl rfl
theorem s_16_16 {a1 : Int32} : Go (d + 1) 16 16 L [.int a1, .ref 2] (HP lx xs M) Q = Go d 62 0 [some (.ref 2), some (.int a1), none, none] [] (HP lx xs M) (fun v h2 => Go (d + 1) 16 19 L (ap v []) h2 Q) := go_cx (E := (.invokevirtual 47, 62, 0, 3)) (k' := 62) (as := [.ref 2, .int a1]) rfl rfl rfl rfl rfl rfl rfl rfl
theorem s_16_19 : Go d 16 19 L [.int x] h Q = Q (some (.int x)) h := go_ri rfl rfl
theorem s_17_0 : Go d 17 0 [some (.ref r), o1, o2, o3, o4] (st) h Q = Go d 17 1 [some (.ref r), o1, o2, o3, o4] (.ref r :: st) h Q := go_lo (E := (.aload_n 0, 0, 0, 0)) rfl rfl rfl
theorem s_17_1 : Go d 17 1 L (.ref 1 :: st) (HP lx xs M) Q = Go d 17 4 L (.ref 2 :: st) (HP lx xs M) Q := go_gf rfl rfl (by decide) rfl
theorem s_17_4 : Go d 17 4 [o0, some (.int x), o2, o3, o4] (st) h Q = Go d 17 5 [o0, some (.int x), o2, o3, o4] (.int x :: st) h Q := go_lo (E := (.iload_n 1, 0, 0, 0)) rfl rfl rfl
theorem s_17_5 {a1 : Int32} : Go (d + 1) 17 5 L [.int a1, .ref 2] (HP lx xs M) Q = Go d 57 0 [some (.ref 2), some (.int a1)] [] (HP lx xs M) (fun v h2 => Go (d + 1) 17 8 L (ap v []) h2 Q) := go_cx (E := (.invokevirtual 51, 57, 0, 3)) (k' := 57) (as := [.ref 2, .int a1]) rfl rfl rfl rfl rfl rfl rfl rfl
theorem s_17_8 : Go d 17 8 L (.int x :: st) h Q = (if x = 0 then Go d 17 29 L st h Q else Go d 17 11 L st h Q) := go_ifeq rfl
theorem s_17_11 : Go d 17 11 [o0, o1, some (.int x), o3, o4] (st) h Q = Go d 17 12 [o0, o1, some (.int x), o3, o4] (.int x :: st) h Q := go_lo (E := (.iload_n 2, 0, 0, 0)) rfl rfl rfl
theorem s_17_12 {a0 : Int32} : Go (d + 1) 17 12 L [.int a0] h Q = Go d 45 0 [some (.int a0)] [] h (fun v h2 => Go (d + 1) 17 15 L (ap v []) h2 Q) := go_cx (E := (.invokestatic 55, 45, 0, 0)) (k' := 45) (as := [.int a0]) rfl rfl rfl rfl rfl rfl rfl rfl
theorem s_17_15 : Go d 17 15 L (.int x :: st) h Q = (if x = 0 then Go d 17 29 L st h Q else Go d 17 18 L st h Q) := go_ifeq rfl
theorem s_17_18 : Go d 17 18 [o0, o1, o2, some (.int x), o4] (st) h Q = Go d 17 19 [o0, o1, o2, some (.int x), o4] (.int x :: st) h Q := go_lo (E := (.iload_n 3, 0, 0, 0)) rfl rfl rfl
theorem s_17_19 : Go d 17 19 L (st) h Q = Go d 17 20 L (.int (-1) :: st) h Q := go_ic rfl ci_im1
theorem s_17_20 : Go d 17 20 L (.int y :: .int x :: st) h Q = (if x < y then Go d 17 29 L st h Q else Go d 17 23 L st h Q) := go_iclt rfl
theorem s_17_23 : Go d 17 23 [o0, o1, o2, some (.int x), o4] (st) h Q = Go d 17 24 [o0, o1, o2, some (.int x), o4] (.int x :: st) h Q := go_lo (E := (.iload_n 3, 0, 0, 0)) rfl rfl rfl
theorem s_17_24 : Go d 17 24 L (st) h Q = Go d 17 26 L (.int (nI 97) :: st) h Q := go_bi rfl ci_b97
theorem s_17_26 : Go d 17 26 L (.int y :: .int x :: st) h Q = (if x < y then Go d 17 31 L st h Q else Go d 17 29 L st h Q) := go_iclt rfl
theorem s_17_29 : Go d 17 29 L (st) h Q = Go d 17 30 L (.int (-1) :: st) h Q := go_ic rfl ci_im1
theorem s_17_30 : Go d 17 30 L [.int x] h Q = Q (some (.int x)) h := go_ri rfl rfl
theorem s_17_31 : Go d 17 31 [some (.ref r), o1, o2, o3, o4] (st) h Q = Go d 17 32 [some (.ref r), o1, o2, o3, o4] (.ref r :: st) h Q := go_lo (E := (.aload_n 0, 0, 0, 0)) rfl rfl rfl
theorem s_17_32 : Go d 17 32 L (.ref 1 :: st) (HP lx xs M) Q = Go d 17 35 L (.ref 2 :: st) (HP lx xs M) Q := go_gf rfl rfl (by decide) rfl
theorem s_17_35 : Go d 17 35 [o0, some (.int x), o2, o3, o4] (st) h Q = Go d 17 36 [o0, some (.int x), o2, o3, o4] (.int x :: st) h Q := go_lo (E := (.iload_n 1, 0, 0, 0)) rfl rfl rfl
theorem s_17_36 : Go d 17 36 [o0, o1, some (.int x), o3, o4] (st) h Q = Go d 17 37 [o0, o1, some (.int x), o3, o4] (.int x :: st) h Q := go_lo (E := (.iload_n 2, 0, 0, 0)) rfl rfl rfl
theorem s_17_37 {a1 : Int32} {a2 : Int32} : Go (d + 1) 17 37 L [.int a2, .int a1, .ref 2] (HP lx xs M) Q = Go d 59 0 [some (.ref 2), some (.int a1), some (.int a2)] [] (HP lx xs M) (fun v h2 => Go (d + 1) 17 40 L (ap v []) h2 Q) := go_cx (E := (.invokevirtual 58, 59, 0, 3)) (k' := 59) (as := [.ref 2, .int a1, .int a2]) rfl rfl rfl rfl rfl rfl rfl rfl
theorem s_17_40 : Go d 17 40 [o0, o1, o2, o3, o4] (.int x :: st) h Q = Go d 17 42 [o0, o1, o2, o3, some (.int x)] (st) h Q := go_lo (E := (.istore 4, 0, 0, 0)) rfl rfl rfl
theorem s_17_42 : Go d 17 42 [some (.ref r), o1, o2, o3, o4] (st) h Q = Go d 17 43 [some (.ref r), o1, o2, o3, o4] (.ref r :: st) h Q := go_lo (E := (.aload_n 0, 0, 0, 0)) rfl rfl rfl
theorem s_17_43 : Go d 17 43 L (.ref 1 :: st) (HP lx xs M) Q = Go d 17 46 L (.ref 2 :: st) (HP lx xs M) Q := go_gf rfl rfl (by decide) rfl
theorem s_17_46 : Go d 17 46 [o0, some (.int x), o2, o3, o4] (st) h Q = Go d 17 47 [o0, some (.int x), o2, o3, o4] (.int x :: st) h Q := go_lo (E := (.iload_n 1, 0, 0, 0)) rfl rfl rfl
theorem s_17_47 : Go d 17 47 [o0, o1, some (.int x), o3, o4] (st) h Q = Go d 17 48 [o0, o1, some (.int x), o3, o4] (.int x :: st) h Q := go_lo (E := (.iload_n 2, 0, 0, 0)) rfl rfl rfl
theorem s_17_48 : Go d 17 48 [o0, o1, o2, some (.int x), o4] (st) h Q = Go d 17 49 [o0, o1, o2, some (.int x), o4] (.int x :: st) h Q := go_lo (E := (.iload_n 3, 0, 0, 0)) rfl rfl rfl
theorem s_17_49 : Go d 17 49 L (.int x :: st) h Q = (if x < 0 then Go d 17 52 L st h Q else Go d 17 57 L st h Q) := go_ifge rfl
theorem s_17_52 : Go d 17 52 L (st) h Q = Go d 17 54 L (.int (nI 97) :: st) h Q := go_bi rfl ci_b97
theorem s_17_54 : Go d 17 54 L (st) h Q = Go d 17 58 L (st) h Q := go_goto rfl
theorem s_17_57 : Go d 17 57 [o0, o1, o2, some (.int x), o4] (st) h Q = Go d 17 58 [o0, o1, o2, some (.int x), o4] (.int x :: st) h Q := go_lo (E := (.iload_n 3, 0, 0, 0)) rfl rfl rfl
theorem s_17_58 {a1 : Int32} {a2 : Int32} {a3 : Int32} : Go (d + 1) 17 58 L [.int a3, .int a2, .int a1, .ref 2] (HP lx xs M) Q = Go d 60 0 [some (.ref 2), some (.int a1), some (.int a2), some (.int a3)] [] (HP lx xs M) (fun v h2 => Go (d + 1) 17 61 L (ap v []) h2 Q) := go_cx (E := (.invokevirtual 62, 60, 0, 3)) (k' := 60) (as := [.ref 2, .int a1, .int a2, .int a3]) rfl rfl rfl rfl rfl rfl rfl rfl
theorem s_17_61 : Go d 17 61 [o0, o1, o2, o3, some (.int x)] (st) h Q = Go d 17 63 [o0, o1, o2, o3, some (.int x)] (.int x :: st) h Q := go_lo (E := (.iload 4, 0, 0, 0)) rfl rfl rfl
theorem s_17_63 : Go d 17 63 L [.int x] h Q = Q (some (.int x)) h := go_ri rfl rfl
theorem s_18_0 : Go d 18 0 [o0, some (.int x), o2, o3] (st) h Q = Go d 18 1 [o0, some (.int x), o2, o3] (.int x :: st) h Q := go_lo (E := (.iload_n 1, 0, 0, 0)) rfl rfl rfl
theorem s_18_1 {a0 : Int32} : Go (d + 1) 18 1 L [.int a0] h Q = Go d 45 0 [some (.int a0)] [] h (fun v h2 => Go (d + 1) 18 4 L (ap v []) h2 Q) := go_cx (E := (.invokestatic 55, 45, 0, 0)) (k' := 45) (as := [.int a0]) rfl rfl rfl rfl rfl rfl rfl rfl
theorem s_18_4 : Go d 18 4 L (.int x :: st) h Q = (if x = 0 then Go d 18 22 L st h Q else Go d 18 7 L st h Q) := go_ifeq rfl
theorem s_18_7 : Go d 18 7 [o0, o1, some (.int x), o3] (st) h Q = Go d 18 8 [o0, o1, some (.int x), o3] (.int x :: st) h Q := go_lo (E := (.iload_n 2, 0, 0, 0)) rfl rfl rfl
theorem s_18_8 {a0 : Int32} : Go (d + 1) 18 8 L [.int a0] h Q = Go d 46 0 [some (.int a0)] [] h (fun v h2 => Go (d + 1) 18 11 L (ap v []) h2 Q) := go_cx (E := (.invokestatic 66, 46, 0, 0)) (k' := 46) (as := [.int a0]) rfl rfl rfl rfl rfl rfl rfl rfl
theorem s_18_11 : Go d 18 11 L (.int x :: st) h Q = (if x = 0 then Go d 18 22 L st h Q else Go d 18 14 L st h Q) := go_ifeq rfl
theorem s_18_14 : Go d 18 14 [o0, o1, some (.int x), o3] (st) h Q = Go d 18 15 [o0, o1, some (.int x), o3] (.int x :: st) h Q := go_lo (E := (.iload_n 2, 0, 0, 0)) rfl rfl rfl
theorem s_18_15 : Go d 18 15 [o0, some (.int x), o2, o3] (st) h Q = Go d 18 16 [o0, some (.int x), o2, o3] (.int x :: st) h Q := go_lo (E := (.iload_n 1, 0, 0, 0)) rfl rfl rfl
theorem s_18_16 {a0 : Int32} {a1 : Int32} : Go (d + 1) 18 16 L [.int a1, .int a0] h Q = Go d 49 0 [some (.int a0), some (.int a1)] [] h (fun v h2 => Go (d + 1) 18 19 L (ap v []) h2 Q) := go_cx (E := (.invokestatic 69, 49, 0, 0)) (k' := 49) (as := [.int a0, .int a1]) rfl rfl rfl rfl rfl rfl rfl rfl
theorem s_18_19 : Go d 18 19 L (.int x :: st) h Q = (if x = 0 then Go d 18 24 L st h Q else Go d 18 22 L st h Q) := go_ifeq rfl
theorem s_18_22 : Go d 18 22 L (st) h Q = Go d 18 23 L (.int (-1) :: st) h Q := go_ic rfl ci_im1
theorem s_18_23 : Go d 18 23 L [.int x] h Q = Q (some (.int x)) h := go_ri rfl rfl
theorem s_18_24 : Go d 18 24 [some (.ref r), o1, o2, o3] (st) h Q = Go d 18 25 [some (.ref r), o1, o2, o3] (.ref r :: st) h Q := go_lo (E := (.aload_n 0, 0, 0, 0)) rfl rfl rfl
theorem s_18_25 : Go d 18 25 L (.ref 1 :: st) (HP lx xs M) Q = Go d 18 28 L (.ref 2 :: st) (HP lx xs M) Q := go_gf rfl rfl (by decide) rfl
theorem s_18_28 : Go d 18 28 L (.ref 2 :: st) (HP lx xs M) Q = Go d 18 31 L (.ref 7 :: st) (HP lx xs M) Q := go_gf rfl rfl (by decide) rfl
theorem s_18_31 : Go d 18 31 [o0, some (.int x), o2, o3] (st) h Q = Go d 18 32 [o0, some (.int x), o2, o3] (.int x :: st) h Q := go_lo (E := (.iload_n 1, 0, 0, 0)) rfl rfl rfl
theorem s_18_32 : Go d 18 32 L (.int x :: .ref 7 :: st) (HP lx xs M) Q = (ex_in x 4 = true ∧ Go d 18 33 L (.int (M 7 x.toNatClampNeg) :: st) (HP lx xs M) Q) := go_al rfl rfl
theorem s_18_33 : Go d 18 33 [o0, o1, o2, o3] (.int x :: st) h Q = Go d 18 34 [o0, o1, o2, some (.int x)] (st) h Q := go_lo (E := (.istore_n 3, 0, 0, 0)) rfl rfl rfl
theorem s_18_34 : Go d 18 34 [some (.ref r), o1, o2, o3] (st) h Q = Go d 18 35 [some (.ref r), o1, o2, o3] (.ref r :: st) h Q := go_lo (E := (.aload_n 0, 0, 0, 0)) rfl rfl rfl
theorem s_18_35 : Go d 18 35 L (.ref 1 :: st) (HP lx xs M) Q = Go d 18 38 L (.ref 2 :: st) (HP lx xs M) Q := go_gf rfl rfl (by decide) rfl
theorem s_18_38 : Go d 18 38 L (.ref 2 :: st) (HP lx xs M) Q = Go d 18 41 L (.ref 7 :: st) (HP lx xs M) Q := go_gf rfl rfl (by decide) rfl
theorem s_18_41 : Go d 18 41 [o0, some (.int x), o2, o3] (st) h Q = Go d 18 42 [o0, some (.int x), o2, o3] (.int x :: st) h Q := go_lo (E := (.iload_n 1, 0, 0, 0)) rfl rfl rfl
theorem s_18_42 : Go d 18 42 [o0, o1, some (.int x), o3] (st) h Q = Go d 18 43 [o0, o1, some (.int x), o3] (.int x :: st) h Q := go_lo (E := (.iload_n 2, 0, 0, 0)) rfl rfl rfl
theorem s_18_43 : Go d 18 43 L (.int y :: .int x :: .ref 7 :: st) (HP lx xs M) Q = (ex_in x 4 = true ∧ Go d 18 44 L (st) (HP lx xs (up M 7 x.toNatClampNeg y)) Q) := go_as rfl rfl (by decide) hs_7
theorem s_18_44 : Go d 18 44 [o0, o1, o2, some (.int x)] (st) h Q = Go d 18 45 [o0, o1, o2, some (.int x)] (.int x :: st) h Q := go_lo (E := (.iload_n 3, 0, 0, 0)) rfl rfl rfl
theorem s_18_45 : Go d 18 45 L [.int x] h Q = Q (some (.int x)) h := go_ri rfl rfl
theorem s_19_0 : Go d 19 0 [some (.ref r), o1, o2, o3, o4] (st) h Q = Go d 19 1 [some (.ref r), o1, o2, o3, o4] (.ref r :: st) h Q := go_lo (E := (.aload_n 0, 0, 0, 0)) rfl rfl rfl
theorem s_19_1 : Go d 19 1 L (.ref 1 :: st) (HP lx xs M) Q = Go d 19 4 L (.ref 2 :: st) (HP lx xs M) Q := go_gf rfl rfl (by decide) rfl
theorem s_19_4 : Go d 19 4 [o0, some (.int x), o2, o3, o4] (st) h Q = Go d 19 5 [o0, some (.int x), o2, o3, o4] (.int x :: st) h Q := go_lo (E := (.iload_n 1, 0, 0, 0)) rfl rfl rfl
theorem s_19_5 {a1 : Int32} : Go (d + 1) 19 5 L [.int a1, .ref 2] (HP lx xs M) Q = Go d 57 0 [some (.ref 2), some (.int a1)] [] (HP lx xs M) (fun v h2 => Go (d + 1) 19 8 L (ap v []) h2 Q) := go_cx (E := (.invokevirtual 51, 57, 0, 3)) (k' := 57) (as := [.ref 2, .int a1]) rfl rfl rfl rfl rfl rfl rfl rfl
theorem s_19_8 : Go d 19 8 L (.int x :: st) h Q = (if x = 0 then Go d 19 27 L st h Q else Go d 19 11 L st h Q) := go_ifeq rfl
theorem s_19_11 : Go d 19 11 [some (.ref r), o1, o2, o3, o4] (st) h Q = Go d 19 12 [some (.ref r), o1, o2, o3, o4] (.ref r :: st) h Q := go_lo (E := (.aload_n 0, 0, 0, 0)) rfl rfl rfl
theorem s_19_12 : Go d 19 12 L (.ref 1 :: st) (HP lx xs M) Q = Go d 19 15 L (.ref 2 :: st) (HP lx xs M) Q := go_gf rfl rfl (by decide) rfl
theorem s_19_15 : Go d 19 15 [o0, o1, some (.int x), o3, o4] (st) h Q = Go d 19 16 [o0, o1, some (.int x), o3, o4] (.int x :: st) h Q := go_lo (E := (.iload_n 2, 0, 0, 0)) rfl rfl rfl
theorem s_19_16 {a1 : Int32} : Go (d + 1) 19 16 L [.int a1, .ref 2] (HP lx xs M) Q = Go d 57 0 [some (.ref 2), some (.int a1)] [] (HP lx xs M) (fun v h2 => Go (d + 1) 19 19 L (ap v []) h2 Q) := go_cx (E := (.invokevirtual 51, 57, 0, 3)) (k' := 57) (as := [.ref 2, .int a1]) rfl rfl rfl rfl rfl rfl rfl rfl
theorem s_19_19 : Go d 19 19 L (.int x :: st) h Q = (if x = 0 then Go d 19 27 L st h Q else Go d 19 22 L st h Q) := go_ifeq rfl
theorem s_19_22 : Go d 19 22 [o0, some (.int x), o2, o3, o4] (st) h Q = Go d 19 23 [o0, some (.int x), o2, o3, o4] (.int x :: st) h Q := go_lo (E := (.iload_n 1, 0, 0, 0)) rfl rfl rfl
theorem s_19_23 : Go d 19 23 [o0, o1, some (.int x), o3, o4] (st) h Q = Go d 19 24 [o0, o1, some (.int x), o3, o4] (.int x :: st) h Q := go_lo (E := (.iload_n 2, 0, 0, 0)) rfl rfl rfl
theorem s_19_24 : Go d 19 24 L (.int y :: .int x :: st) h Q = (if x = y then Go d 19 27 L st h Q else Go d 19 29 L st h Q) := go_icne rfl
theorem s_19_27 : Go d 19 27 L (st) h Q = Go d 19 28 L (.int (-1) :: st) h Q := go_ic rfl ci_im1
theorem s_19_28 : Go d 19 28 L [.int x] h Q = Q (some (.int x)) h := go_ri rfl rfl
theorem s_19_29 : Go d 19 29 [some (.ref r), o1, o2, o3, o4] (st) h Q = Go d 19 30 [some (.ref r), o1, o2, o3, o4] (.ref r :: st) h Q := go_lo (E := (.aload_n 0, 0, 0, 0)) rfl rfl rfl
theorem s_19_30 : Go d 19 30 L (.ref 1 :: st) (HP lx xs M) Q = Go d 19 33 L (.ref 2 :: st) (HP lx xs M) Q := go_gf rfl rfl (by decide) rfl
theorem s_19_33 : Go d 19 33 L (.ref 2 :: st) (HP lx xs M) Q = Go d 19 36 L (.ref 6 :: st) (HP lx xs M) Q := go_gf rfl rfl (by decide) rfl
theorem s_19_36 : Go d 19 36 [o0, some (.int x), o2, o3, o4] (st) h Q = Go d 19 37 [o0, some (.int x), o2, o3, o4] (.int x :: st) h Q := go_lo (E := (.iload_n 1, 0, 0, 0)) rfl rfl rfl
theorem s_19_37 : Go d 19 37 L (.int x :: .ref 6 :: st) (HP lx xs M) Q = (ex_in x 6 = true ∧ Go d 19 38 L (.int (M 6 x.toNatClampNeg) :: st) (HP lx xs M) Q) := go_al rfl rfl
theorem s_19_38 : Go d 19 38 [o0, o1, o2, o3, o4] (.int x :: st) h Q = Go d 19 40 [o0, o1, o2, o3, some (.int x)] (st) h Q := go_lo (E := (.istore 4, 0, 0, 0)) rfl rfl rfl
theorem s_19_40 : Go d 19 40 [some (.ref r), o1, o2, o3, o4] (st) h Q = Go d 19 41 [some (.ref r), o1, o2, o3, o4] (.ref r :: st) h Q := go_lo (E := (.aload_n 0, 0, 0, 0)) rfl rfl rfl
theorem s_19_41 : Go d 19 41 L (.ref 1 :: st) (HP lx xs M) Q = Go d 19 44 L (.ref 2 :: st) (HP lx xs M) Q := go_gf rfl rfl (by decide) rfl
theorem s_19_44 : Go d 19 44 L (.ref 2 :: st) (HP lx xs M) Q = Go d 19 47 L (.ref 6 :: st) (HP lx xs M) Q := go_gf rfl rfl (by decide) rfl
theorem s_19_47 : Go d 19 47 [o0, some (.int x), o2, o3, o4] (st) h Q = Go d 19 48 [o0, some (.int x), o2, o3, o4] (.int x :: st) h Q := go_lo (E := (.iload_n 1, 0, 0, 0)) rfl rfl rfl
theorem s_19_48 : Go d 19 48 [o0, o1, o2, some (.int x), o4] (st) h Q = Go d 19 49 [o0, o1, o2, some (.int x), o4] (.int x :: st) h Q := go_lo (E := (.iload_n 3, 0, 0, 0)) rfl rfl rfl
theorem s_19_49 : Go d 19 49 L (.int x :: st) h Q = (if x = 0 then Go d 19 61 L st h Q else Go d 19 52 L st h Q) := go_ifeq rfl
theorem s_19_52 : Go d 19 52 [o0, o1, o2, o3, some (.int x)] (st) h Q = Go d 19 54 [o0, o1, o2, o3, some (.int x)] (.int x :: st) h Q := go_lo (E := (.iload 4, 0, 0, 0)) rfl rfl rfl
theorem s_19_54 : Go d 19 54 L (st) h Q = Go d 19 55 L (.int (nI 1) :: st) h Q := go_ic rfl ci_i1
theorem s_19_55 : Go d 19 55 [o0, o1, some (.int x), o3, o4] (st) h Q = Go d 19 56 [o0, o1, some (.int x), o3, o4] (.int x :: st) h Q := go_lo (E := (.iload_n 2, 0, 0, 0)) rfl rfl rfl
theorem s_19_56 : Go d 19 56 L (.int y :: .int x :: st) h Q = Go d 19 57 L (.int (x <<< (y &&& 31)) :: st) h Q := go_op (E := (.ishl, 0, 0, 0)) rfl rfl
theorem s_19_57 : Go d 19 57 L (.int y :: .int x :: st) h Q = Go d 19 58 L (.int (x ||| y) :: st) h Q := go_op (E := (.ior, 0, 0, 0)) rfl rfl
theorem s_19_58 : Go d 19 58 L (st) h Q = Go d 19 69 L (st) h Q := go_goto rfl
theorem s_19_61 : Go d 19 61 [o0, o1, o2, o3, some (.int x)] (st) h Q = Go d 19 63 [o0, o1, o2, o3, some (.int x)] (.int x :: st) h Q := go_lo (E := (.iload 4, 0, 0, 0)) rfl rfl rfl
theorem s_19_63 : Go d 19 63 L (st) h Q = Go d 19 64 L (.int (nI 1) :: st) h Q := go_ic rfl ci_i1
theorem s_19_64 : Go d 19 64 [o0, o1, some (.int x), o3, o4] (st) h Q = Go d 19 65 [o0, o1, some (.int x), o3, o4] (.int x :: st) h Q := go_lo (E := (.iload_n 2, 0, 0, 0)) rfl rfl rfl
theorem s_19_65 : Go d 19 65 L (.int y :: .int x :: st) h Q = Go d 19 66 L (.int (x <<< (y &&& 31)) :: st) h Q := go_op (E := (.ishl, 0, 0, 0)) rfl rfl
theorem s_19_66 : Go d 19 66 L (st) h Q = Go d 19 67 L (.int (-1) :: st) h Q := go_ic rfl ci_im1
theorem s_19_67 : Go d 19 67 L (.int y :: .int x :: st) h Q = Go d 19 68 L (.int (x ^^^ y) :: st) h Q := go_op (E := (.ixor, 0, 0, 0)) rfl rfl
theorem s_19_68 : Go d 19 68 L (.int y :: .int x :: st) h Q = Go d 19 69 L (.int (x &&& y) :: st) h Q := go_op (E := (.iand, 0, 0, 0)) rfl rfl
theorem s_19_69 : Go d 19 69 L (.int y :: .int x :: .ref 6 :: st) (HP lx xs M) Q = (ex_in x 6 = true ∧ Go d 19 70 L (st) (HP lx xs (up M 6 x.toNatClampNeg y)) Q) := go_as rfl rfl (by decide) hs_6
theorem s_19_70 : Go d 19 70 [o0, o1, o2, o3, some (.int x)] (st) h Q = Go d 19 72 [o0, o1, o2, o3, some (.int x)] (.int x :: st) h Q := go_lo (E := (.iload 4, 0, 0, 0)) rfl rfl rfl
theorem s_19_72 : Go d 19 72 [o0, o1, some (.int x), o3, o4] (st) h Q = Go d 19 73 [o0, o1, some (.int x), o3, o4] (.int x :: st) h Q := go_lo (E := (.iload_n 2, 0, 0, 0)) rfl rfl rfl
theorem s_19_73 {a0 : Int32} {a1 : Int32} : Go (d + 1) 19 73 L [.int a1, .int a0] h Q = Go d 49 0 [some (.int a0), some (.int a1)] [] h (fun v h2 => Go (d + 1) 19 76 L (ap v []) h2 Q) := go_cx (E := (.invokestatic 69, 49, 0, 0)) (k' := 49) (as := [.int a0, .int a1]) rfl rfl rfl rfl rfl rfl rfl rfl
theorem s_19_76 : Go d 19 76 L (.int x :: st) h Q = (if x = 0 then Go d 19 83 L st h Q else Go d 19 79 L st h Q) := go_ifeq rfl
theorem s_19_79 : Go d 19 79 L (st) h Q = Go d 19 80 L (.int (nI 1) :: st) h Q := go_ic rfl ci_i1
theorem s_19_80 : Go d 19 80 L (st) h Q = Go d 19 84 L (st) h Q := go_goto rfl
theorem s_19_83 : Go d 19 83 L (st) h Q = Go d 19 84 L (.int (nI 0) :: st) h Q := go_ic rfl ci_i0
theorem s_19_84 : Go d 19 84 L [.int x] h Q = Q (some (.int x)) h := go_ri rfl rfl
theorem s_20_0 : Go d 20 0 [some (.ref r), o1, o2] (st) h Q = Go d 20 1 [some (.ref r), o1, o2] (.ref r :: st) h Q := go_lo (E := (.aload_n 0, 0, 0, 0)) rfl rfl rfl
theorem s_20_1 : Go d 20 1 L (.ref 1 :: st) (HP lx xs M) Q = Go d 20 4 L (.ref 2 :: st) (HP lx xs M) Q := go_gf rfl rfl (by decide) rfl
theorem s_20_4 : Go d 20 4 [o0, some (.int x), o2] (st) h Q = Go d 20 5 [o0, some (.int x), o2] (.int x :: st) h Q := go_lo (E := (.iload_n 1, 0, 0, 0)) rfl rfl rfl
theorem s_20_5 {a1 : Int32} : Go (d + 1) 20 5 L [.int a1, .ref 2] (HP lx xs M) Q = Go d 57 0 [some (.ref 2), some (.int a1)] [] (HP lx xs M) (fun v h2 => Go (d + 1) 20 8 L (ap v []) h2 Q) := go_cx (E := (.invokevirtual 51, 57, 0, 3)) (k' := 57) (as := [.ref 2, .int a1]) rfl rfl rfl rfl rfl rfl rfl rfl
theorem s_20_8 : Go d 20 8 L (.int x :: st) h Q = (if x = 0 then Go d 20 21 L st h Q else Go d 20 11 L st h Q) := go_ifeq rfl
theorem s_20_11 : Go d 20 11 [o0, o1, some (.int x)] (st) h Q = Go d 20 12 [o0, o1, some (.int x)] (.int x :: st) h Q := go_lo (E := (.iload_n 2, 0, 0, 0)) rfl rfl rfl
theorem s_20_12 : Go d 20 12 L (.int x :: st) h Q = (if x < 0 then Go d 20 21 L st h Q else Go d 20 15 L st h Q) := go_iflt rfl
theorem s_20_15 : Go d 20 15 [o0, o1, some (.int x)] (st) h Q = Go d 20 16 [o0, o1, some (.int x)] (.int x :: st) h Q := go_lo (E := (.iload_n 2, 0, 0, 0)) rfl rfl rfl
theorem s_20_16 : Go d 20 16 L (st) h Q = Go d 20 18 L (.int (nI 7) :: st) h Q := go_bi rfl ci_b7
theorem s_20_18 : Go d 20 18 L (.int y :: .int x :: st) h Q = (if x < y then Go d 20 23 L st h Q else Go d 20 21 L st h Q) := go_iclt rfl
theorem s_20_21 : Go d 20 21 L (st) h Q = Go d 20 22 L (.int (-1) :: st) h Q := go_ic rfl ci_im1
theorem s_20_22 : Go d 20 22 L [.int x] h Q = Q (some (.int x)) h := go_ri rfl rfl
theorem s_20_23 : Go d 20 23 [o0, o1, some (.int x)] (st) h Q = Go d 20 24 [o0, o1, some (.int x)] (.int x :: st) h Q := go_lo (E := (.iload_n 2, 0, 0, 0)) rfl rfl rfl
theorem s_20_24_0 : Go d 20 24 L (.int (nI 0) :: st) h Q = Go d 20 52 L (st) h Q := go_ts (i := 0) (off := 28) rfl (by decide +kernel) (by decide +kernel) rfl (by decide +kernel)
theorem s_20_24_1 : Go d 20 24 L (.int (nI 1) :: st) h Q = Go d 20 62 L (st) h Q := go_ts (i := 1) (off := 38) rfl (by decide +kernel) (by decide +kernel) rfl (by decide +kernel)
theorem s_20_24_2 : Go d 20 24 L (.int (nI 2) :: st) h Q = Go d 20 72 L (st) h Q := go_ts (i := 2) (off := 48) rfl (by decide +kernel) (by decide +kernel) rfl (by decide +kernel)
theorem s_20_24_3 : Go d 20 24 L (.int (nI 3) :: st) h Q = Go d 20 82 L (st) h Q := go_td rfl (by decide +kernel) (by decide +kernel)
theorem s_20_24_4 : Go d 20 24 L (.int (nI 4) :: st) h Q = Go d 20 82 L (st) h Q := go_td rfl (by decide +kernel) (by decide +kernel)
theorem s_20_24_5 : Go d 20 24 L (.int (nI 5) :: st) h Q = Go d 20 82 L (st) h Q := go_td rfl (by decide +kernel) (by decide +kernel)
theorem s_20_24_6 : Go d 20 24 L (.int (nI 6) :: st) h Q = Go d 20 82 L (st) h Q := go_td rfl (by decide +kernel) (by decide +kernel)
theorem s_20_24_7 : Go d 20 24 L (.int (nI 7) :: st) h Q = Go d 20 82 L (st) h Q := go_td rfl (by decide +kernel) (by decide +kernel)
theorem s_20_24_8 : Go d 20 24 L (.int (nI 8) :: st) h Q = Go d 20 82 L (st) h Q := go_td rfl (by decide +kernel) (by decide +kernel)
theorem sd_20_24 (hx : x.toInt < 0 ∨ 2 < x.toInt) : Go d 20 24 L (.int x :: st) h Q = Go d 20 82 L st h Q := go_td rfl hx (by decide +kernel)
theorem s_20_52 : Go d 20 52 [some (.ref r), o1, o2] (st) h Q = Go d 20 53 [some (.ref r), o1, o2] (.ref r :: st) h Q := go_lo (E := (.aload_n 0, 0, 0, 0)) rfl rfl rfl
theorem s_20_53 : Go d 20 53 L (.ref 1 :: st) (HP lx xs M) Q = Go d 20 56 L (.ref 2 :: st) (HP lx xs M) Q := go_gf rfl rfl (by decide) rfl
theorem s_20_56 : Go d 20 56 L (.ref 2 :: st) (HP lx xs M) Q = Go d 20 59 L (.ref 3 :: st) (HP lx xs M) Q := go_gf rfl rfl (by decide) rfl
theorem s_20_59 : Go d 20 59 [o0, some (.int x), o2] (st) h Q = Go d 20 60 [o0, some (.int x), o2] (.int x :: st) h Q := go_lo (E := (.iload_n 1, 0, 0, 0)) rfl rfl rfl
theorem s_20_60 : Go d 20 60 L (.int x :: .ref 3 :: st) (HP lx xs M) Q = (ex_in x 6 = true ∧ Go d 20 61 L (.int (M 3 x.toNatClampNeg) :: st) (HP lx xs M) Q) := go_al rfl rfl
theorem s_20_61 : Go d 20 61 L [.int x] h Q = Q (some (.int x)) h := go_ri rfl rfl
theorem s_20_62 : Go d 20 62 [some (.ref r), o1, o2] (st) h Q = Go d 20 63 [some (.ref r), o1, o2] (.ref r :: st) h Q := go_lo (E := (.aload_n 0, 0, 0, 0)) rfl rfl rfl
theorem s_20_63 : Go d 20 63 L (.ref 1 :: st) (HP lx xs M) Q = Go d 20 66 L (.ref 2 :: st) (HP lx xs M) Q := go_gf rfl rfl (by decide) rfl
theorem s_20_66 : Go d 20 66 L (.ref 2 :: st) (HP lx xs M) Q = Go d 20 69 L (.ref 5 :: st) (HP lx xs M) Q := go_gf rfl rfl (by decide) rfl
theorem s_20_69 : Go d 20 69 [o0, some (.int x), o2] (st) h Q = Go d 20 70 [o0, some (.int x), o2] (.int x :: st) h Q := go_lo (E := (.iload_n 1, 0, 0, 0)) rfl rfl rfl
theorem s_20_70 : Go d 20 70 L (.int x :: .ref 5 :: st) (HP lx xs M) Q = (ex_in x 6 = true ∧ Go d 20 71 L (.int (M 5 x.toNatClampNeg) :: st) (HP lx xs M) Q) := go_al rfl rfl
theorem s_20_71 : Go d 20 71 L [.int x] h Q = Q (some (.int x)) h := go_ri rfl rfl
theorem s_20_72 : Go d 20 72 [some (.ref r), o1, o2] (st) h Q = Go d 20 73 [some (.ref r), o1, o2] (.ref r :: st) h Q := go_lo (E := (.aload_n 0, 0, 0, 0)) rfl rfl rfl
theorem s_20_73 : Go d 20 73 L (.ref 1 :: st) (HP lx xs M) Q = Go d 20 76 L (.ref 2 :: st) (HP lx xs M) Q := go_gf rfl rfl (by decide) rfl
theorem s_20_76 : Go d 20 76 L (.ref 2 :: st) (HP lx xs M) Q = Go d 20 79 L (.ref 6 :: st) (HP lx xs M) Q := go_gf rfl rfl (by decide) rfl
theorem s_20_79 : Go d 20 79 [o0, some (.int x), o2] (st) h Q = Go d 20 80 [o0, some (.int x), o2] (.int x :: st) h Q := go_lo (E := (.iload_n 1, 0, 0, 0)) rfl rfl rfl
theorem s_20_80 : Go d 20 80 L (.int x :: .ref 6 :: st) (HP lx xs M) Q = (ex_in x 6 = true ∧ Go d 20 81 L (.int (M 6 x.toNatClampNeg) :: st) (HP lx xs M) Q) := go_al rfl rfl
theorem s_20_81 : Go d 20 81 L [.int x] h Q = Q (some (.int x)) h := go_ri rfl rfl
theorem s_20_82 : Go d 20 82 [some (.ref r), o1, o2] (st) h Q = Go d 20 83 [some (.ref r), o1, o2] (.ref r :: st) h Q := go_lo (E := (.aload_n 0, 0, 0, 0)) rfl rfl rfl
theorem s_20_83 : Go d 20 83 L (.ref 1 :: st) (HP lx xs M) Q = Go d 20 86 L (.ref 2 :: st) (HP lx xs M) Q := go_gf rfl rfl (by decide) rfl
theorem s_20_86 : Go d 20 86 [o0, some (.int x), o2] (st) h Q = Go d 20 87 [o0, some (.int x), o2] (.int x :: st) h Q := go_lo (E := (.iload_n 1, 0, 0, 0)) rfl rfl rfl
theorem s_20_87 : Go d 20 87 [o0, o1, some (.int x)] (st) h Q = Go d 20 88 [o0, o1, some (.int x)] (.int x :: st) h Q := go_lo (E := (.iload_n 2, 0, 0, 0)) rfl rfl rfl
theorem s_20_88 : Go d 20 88 L (st) h Q = Go d 20 89 L (.int (nI 3) :: st) h Q := go_ic rfl ci_i3
theorem s_20_89 : Go d 20 89 L (.int y :: .int x :: st) h Q = Go d 20 90 L (.int (x - y) :: st) h Q := go_op (E := (.isub, 0, 0, 0)) rfl rfl
theorem s_20_90 {a1 : Int32} {a2 : Int32} : Go (d + 1) 20 90 L [.int a2, .int a1, .ref 2] (HP lx xs M) Q = Go d 59 0 [some (.ref 2), some (.int a1), some (.int a2)] [] (HP lx xs M) (fun v h2 => Go (d + 1) 20 93 L (ap v []) h2 Q) := go_cx (E := (.invokevirtual 58, 59, 0, 3)) (k' := 59) (as := [.ref 2, .int a1, .int a2]) rfl rfl rfl rfl rfl rfl rfl rfl
theorem s_20_93 : Go d 20 93 L [.int x] h Q = Q (some (.int x)) h := go_ri rfl rfl
theorem s_21_0 : Go d 21 0 [some (.ref r), o1, o2] (st) h Q = Go d 21 1 [some (.ref r), o1, o2] (.ref r :: st) h Q := go_lo (E := (.aload_n 0, 0, 0, 0)) rfl rfl rfl
theorem s_21_1 : Go d 21 1 L (.ref 1 :: st) (HP lx xs M) Q = Go d 21 4 L (.ref 2 :: st) (HP lx xs M) Q := go_gf rfl rfl (by decide) rfl
theorem s_21_4 : Go d 21 4 [o0, some (.int x), o2] (st) h Q = Go d 21 5 [o0, some (.int x), o2] (.int x :: st) h Q := go_lo (E := (.iload_n 1, 0, 0, 0)) rfl rfl rfl
theorem s_21_5 {a1 : Int32} : Go (d + 1) 21 5 L [.int a1, .ref 2] (HP lx xs M) Q = Go d 57 0 [some (.ref 2), some (.int a1)] [] (HP lx xs M) (fun v h2 => Go (d + 1) 21 8 L (ap v []) h2 Q) := go_cx (E := (.invokevirtual 51, 57, 0, 3)) (k' := 57) (as := [.ref 2, .int a1]) rfl rfl rfl rfl rfl rfl rfl rfl
theorem s_21_8 : Go d 21 8 L (.int x :: st) h Q = (if x = 0 then Go d 21 21 L st h Q else Go d 21 11 L st h Q) := go_ifeq rfl
theorem s_21_11 : Go d 21 11 [o0, o1, some (.int x)] (st) h Q = Go d 21 12 [o0, o1, some (.int x)] (.int x :: st) h Q := go_lo (E := (.iload_n 2, 0, 0, 0)) rfl rfl rfl
theorem s_21_12 : Go d 21 12 L (.int x :: st) h Q = (if x < 0 then Go d 21 21 L st h Q else Go d 21 15 L st h Q) := go_iflt rfl
theorem s_21_15 : Go d 21 15 [o0, o1, some (.int x)] (st) h Q = Go d 21 16 [o0, o1, some (.int x)] (.int x :: st) h Q := go_lo (E := (.iload_n 2, 0, 0, 0)) rfl rfl rfl
theorem s_21_16 : Go d 21 16 L (st) h Q = Go d 21 18 L (.int (nI 97) :: st) h Q := go_bi rfl ci_b97
theorem s_21_18 : Go d 21 18 L (.int y :: .int x :: st) h Q = (if x < y then Go d 21 23 L st h Q else Go d 21 21 L st h Q) := go_iclt rfl
theorem s_21_21 : Go d 21 21 L (st) h Q = Go d 21 22 L (.int (-1) :: st) h Q := go_ic rfl ci_im1
theorem s_21_22 : Go d 21 22 L [.int x] h Q = Q (some (.int x)) h := go_ri rfl rfl
theorem s_21_23 : Go d 21 23 [some (.ref r), o1, o2] (st) h Q = Go d 21 24 [some (.ref r), o1, o2] (.ref r :: st) h Q := go_lo (E := (.aload_n 0, 0, 0, 0)) rfl rfl rfl
theorem s_21_24 : Go d 21 24 L (.ref 1 :: st) (HP lx xs M) Q = Go d 21 27 L (.ref 2 :: st) (HP lx xs M) Q := go_gf rfl rfl (by decide) rfl
theorem s_21_27 : Go d 21 27 L (.ref 2 :: st) (HP lx xs M) Q = Go d 21 30 L (.ref 3 :: st) (HP lx xs M) Q := go_gf rfl rfl (by decide) rfl
theorem s_21_30 : Go d 21 30 [o0, some (.int x), o2] (st) h Q = Go d 21 31 [o0, some (.int x), o2] (.int x :: st) h Q := go_lo (E := (.iload_n 1, 0, 0, 0)) rfl rfl rfl
theorem s_21_31 : Go d 21 31 L (.int x :: .ref 3 :: st) (HP lx xs M) Q = (ex_in x 6 = true ∧ Go d 21 32 L (.int (M 3 x.toNatClampNeg) :: st) (HP lx xs M) Q) := go_al rfl rfl
theorem s_21_32 : Go d 21 32 [o0, o1, some (.int x)] (st) h Q = Go d 21 33 [o0, o1, some (.int x)] (.int x :: st) h Q := go_lo (E := (.iload_n 2, 0, 0, 0)) rfl rfl rfl
theorem s_21_33 {a0 : Int32} {a1 : Int32} : Go (d + 1) 21 33 L [.int a1, .int a0] h Q = Go d 50 0 [some (.int a0), some (.int a1)] [] h (fun v h2 => Go (d + 1) 21 36 L (ap v []) h2 Q) := go_cx (E := (.invokestatic 86, 50, 0, 0)) (k' := 50) (as := [.int a0, .int a1]) rfl rfl rfl rfl rfl rfl rfl rfl
theorem s_21_36 : Go d 21 36 L [.int x] h Q = Q (some (.int x)) h := go_ri rfl rfl
theorem s_22_0 : Go d 22 0 [o0, o1, o2, some (.int x)] (st) h Q = Go d 22 1 [o0, o1, o2, some (.int x)] (.int x :: st) h Q := go_lo (E := (.iload_n 3, 0, 0, 0)) rfl rfl rfl
theorem s_22_1 : Go d 22 1 L (st) h Q = Go d 22 2 L (.int (nI 1) :: st) h Q := go_ic rfl ci_i1
theorem s_22_2 : Go d 22 2 L (.int y :: .int x :: st) h Q = (if x < y then Go d 22 11 L st h Q else Go d 22 5 L st h Q) := go_iclt rfl
theorem s_22_5 : Go d 22 5 [o0, o1, o2, some (.int x)] (st) h Q = Go d 22 6 [o0, o1, o2, some (.int x)] (.int x :: st) h Q := go_lo (E := (.iload_n 3, 0, 0, 0)) rfl rfl rfl
theorem s_22_6 : Go d 22 6 L (st) h Q = Go d 22 8 L (.int (nI 8) :: st) h Q := go_bi rfl ci_b8
theorem s_22_8 : Go d 22 8 L (.int y :: .int x :: st) h Q = (if y < x then Go d 22 11 L st h Q else Go d 22 13 L st h Q) := go_icle rfl
theorem s_22_11 : Go d 22 11 L (st) h Q = Go d 22 12 L (.int (-1) :: st) h Q := go_ic rfl ci_im1
theorem s_22_12 : Go d 22 12 L [.int x] h Q = Q (some (.int x)) h := go_ri rfl rfl
theorem s_22_13 : Go d 22 13 [some (.ref r), o1, o2, o3] (st) h Q = Go d 22 14 [some (.ref r), o1, o2, o3] (.ref r :: st) h Q := go_lo (E := (.aload_n 0, 0, 0, 0)) rfl rfl rfl
theorem s_22_14 : Go d 22 14 L (.ref 1 :: st) (HP lx xs M) Q = Go d 22 17 L (.ref 28 :: st) (HP lx xs M) Q := go_gf rfl rfl (by decide) rfl
theorem s_22_17 : Go d 22 17 [o0, some (.long u), o2, o3] (st) h Q = Go d 22 18 [o0, some (.long u), o2, o3] (.long u :: st) h Q := go_lo (E := (.lload_n 1, 0, 0, 0)) rfl rfl rfl
theorem s_22_18 : Go d 22 18 [o0, o1, o2, some (.int x)] (st) h Q = Go d 22 19 [o0, o1, o2, some (.int x)] (.int x :: st) h Q := go_lo (E := (.iload_n 3, 0, 0, 0)) rfl rfl rfl
theorem s_22_19 {a2 : Int32} {al1 : Int64} : Go (d + 1) 22 19 L [.int a2, .long al1, .ref 28] (HP lx xs M) Q = Go d 78 0 [some (.ref 28), some (.long al1), none, some (.int a2), none, none] [] (HP lx xs M) (fun v h2 => Go (d + 1) 22 22 L (ap v []) h2 Q) := go_cx (E := (.invokevirtual 89, 78, 0, 1)) (k' := 78) (as := [.ref 28, .long al1, .int a2]) rfl rfl rfl rfl rfl rfl rfl rfl
theorem s_22_22 : Go d 22 22 L [.int x] h Q = Q (some (.int x)) h := go_ri rfl rfl
theorem s_23_0 : Go d 23 0 [some (.ref r), o1, o2] (st) h Q = Go d 23 1 [some (.ref r), o1, o2] (.ref r :: st) h Q := go_lo (E := (.aload_n 0, 0, 0, 0)) rfl rfl rfl
theorem s_23_1 : Go d 23 1 L (.ref 1 :: st) (HP lx xs M) Q = Go d 23 4 L (.ref 28 :: st) (HP lx xs M) Q := go_gf rfl rfl (by decide) rfl
theorem s_23_4  : Go (d + 1) 23 4 L [.ref 28] (HP lx xs M) Q = Go d 87 0 [some (.ref 28), none] [] (HP lx xs M) (fun v h2 => Go (d + 1) 23 7 L (ap v []) h2 Q) := go_cx (E := (.invokevirtual 93, 87, 0, 1)) (k' := 87) (as := [.ref 28]) rfl rfl rfl rfl rfl rfl rfl rfl
theorem s_23_7 : Go d 23 7 [o0, o1, o2] (.int x :: st) h Q = Go d 23 8 [o0, some (.int x), o2] (st) h Q := go_lo (E := (.istore_n 1, 0, 0, 0)) rfl rfl rfl
theorem s_23_8 : Go d 23 8 [some (.ref r), o1, o2] (st) h Q = Go d 23 9 [some (.ref r), o1, o2] (.ref r :: st) h Q := go_lo (E := (.aload_n 0, 0, 0, 0)) rfl rfl rfl
theorem s_23_9 : Go d 23 9 L (.ref 1 :: st) (HP lx xs M) Q = Go d 23 12 L (.ref 28 :: st) (HP lx xs M) Q := go_gf rfl rfl (by decide) rfl
theorem s_23_12  : Go (d + 1) 23 12 L [.ref 28] (HP lx xs M) Q = Go d 80 0 [some (.ref 28)] [] (HP lx xs M) (fun v h2 => Go (d + 1) 23 15 L (ap v []) h2 Q) := go_cx (E := (.invokevirtual 97, 80, 0, 1)) (k' := 80) (as := [.ref 28]) rfl rfl rfl rfl rfl rfl rfl rfl
theorem s_23_15 : Go d 23 15 [o0, some (.int x), o2] (st) h Q = Go d 23 16 [o0, some (.int x), o2] (.int x :: st) h Q := go_lo (E := (.iload_n 1, 0, 0, 0)) rfl rfl rfl
theorem s_23_16 : Go d 23 16 L (.int x :: st) h Q = (if x < 0 then Go d 23 19 L st h Q else Go d 23 21 L st h Q) := go_ifge rfl
theorem s_23_19 : Go d 23 19 [o0, some (.int x), o2] (st) h Q = Go d 23 20 [o0, some (.int x), o2] (.int x :: st) h Q := go_lo (E := (.iload_n 1, 0, 0, 0)) rfl rfl rfl
theorem s_23_20 : Go d 23 20 L [.int x] h Q = Q (some (.int x)) h := go_ri rfl rfl
theorem s_23_21 : Go d 23 21 [some (.ref r), o1, o2] (st) h Q = Go d 23 22 [some (.ref r), o1, o2] (.ref r :: st) h Q := go_lo (E := (.aload_n 0, 0, 0, 0)) rfl rfl rfl
theorem s_23_22 : Go d 23 22 L (.ref 1 :: st) (HP lx xs M) Q = Go d 23 25 L (.ref 2 :: st) (HP lx xs M) Q := go_gf rfl rfl (by decide) rfl
theorem s_23_25  : Go (d + 1) 23 25 L [.ref 2] (HP lx xs M) Q = Go d 63 0 [some (.ref 2)] [] (HP lx xs M) (fun v h2 => Go (d + 1) 23 28 L (ap v []) h2 Q) := go_cx (E := (.invokevirtual 100, 63, 0, 3)) (k' := 63) (as := [.ref 2]) rfl rfl rfl rfl rfl rfl rfl rfl
theorem s_23_28 : Go d 23 28 L (st) h Q = Go d 23 29 L (.int (nI 0) :: st) h Q := go_ic rfl ci_i0
theorem s_23_29 : Go d 23 29 [o0, o1, o2] (.int x :: st) h Q = Go d 23 30 [o0, o1, some (.int x)] (st) h Q := go_lo (E := (.istore_n 2, 0, 0, 0)) rfl rfl rfl
theorem s_23_30 : Go d 23 30 [o0, o1, some (.int x)] (st) h Q = Go d 23 31 [o0, o1, some (.int x)] (.int x :: st) h Q := go_lo (E := (.iload_n 2, 0, 0, 0)) rfl rfl rfl
theorem s_23_31 : Go d 23 31 [o0, some (.int x), o2] (st) h Q = Go d 23 32 [o0, some (.int x), o2] (.int x :: st) h Q := go_lo (E := (.iload_n 1, 0, 0, 0)) rfl rfl rfl
theorem s_23_32 : Go d 23 32 L (.int y :: .int x :: st) h Q = (if x < y then Go d 23 35 L st h Q else Go d 23 81 L st h Q) := go_icge rfl
theorem s_23_35 : Go d 23 35 [o0, o1, some (.int x)] (st) h Q = Go d 23 36 [o0, o1, some (.int x)] (.int x :: st) h Q := go_lo (E := (.iload_n 2, 0, 0, 0)) rfl rfl rfl
theorem s_23_36 : Go d 23 36 L (st) h Q = Go d 23 38 L (.int (nI 6) :: st) h Q := go_bi rfl ci_b6
theorem s_23_38 : Go d 23 38 L (.int y :: .int x :: st) h Q = (if x < y then Go d 23 41 L st h Q else Go d 23 81 L st h Q) := go_icge rfl
theorem s_23_41 : Go d 23 41 [some (.ref r), o1, o2] (st) h Q = Go d 23 42 [some (.ref r), o1, o2] (.ref r :: st) h Q := go_lo (E := (.aload_n 0, 0, 0, 0)) rfl rfl rfl
theorem s_23_42 : Go d 23 42 L (.ref 1 :: st) (HP lx xs M) Q = Go d 23 45 L (.ref 2 :: st) (HP lx xs M) Q := go_gf rfl rfl (by decide) rfl
theorem s_23_45 : Go d 23 45 [some (.ref r), o1, o2] (st) h Q = Go d 23 46 [some (.ref r), o1, o2] (.ref r :: st) h Q := go_lo (E := (.aload_n 0, 0, 0, 0)) rfl rfl rfl
theorem s_23_46 : Go d 23 46 L (.ref 1 :: st) (HP lx xs M) Q = Go d 23 49 L (.ref 28 :: st) (HP lx xs M) Q := go_gf rfl rfl (by decide) rfl
theorem s_23_49 : Go d 23 49 L (.ref 28 :: st) (HP lx xs M) Q = Go d 23 52 L (.ref 29 :: st) (HP lx xs M) Q := go_gf rfl rfl (by decide) rfl
theorem s_23_52 : Go d 23 52 [o0, o1, some (.int x)] (st) h Q = Go d 23 53 [o0, o1, some (.int x)] (.int x :: st) h Q := go_lo (E := (.iload_n 2, 0, 0, 0)) rfl rfl rfl
theorem s_23_53 : Go d 23 53 L (.int x :: .ref 29 :: st) (HP lx xs M) Q = (ex_in x 6 = true ∧ Go d 23 54 L (.int (M 29 x.toNatClampNeg) :: st) (HP lx xs M) Q) := go_al rfl rfl
theorem s_23_54 {a1 : Int32} : Go (d + 1) 23 54 L [.int a1, .ref 2] (HP lx xs M) Q = Go d 62 0 [some (.ref 2), some (.int a1), none, none] [] (HP lx xs M) (fun v h2 => Go (d + 1) 23 57 L (ap v []) h2 Q) := go_cx (E := (.invokevirtual 47, 62, 0, 3)) (k' := 62) (as := [.ref 2, .int a1]) rfl rfl rfl rfl rfl rfl rfl rfl
theorem s_23_57 : Go d 23 57 L (.int x :: st) h Q = Go d 23 58 L (st) h Q := go_op (E := (.pop, 0, 0, 0)) rfl rfl
theorem s_23_58 : Go d 23 58 [some (.ref r), o1, o2] (st) h Q = Go d 23 59 [some (.ref r), o1, o2] (.ref r :: st) h Q := go_lo (E := (.aload_n 0, 0, 0, 0)) rfl rfl rfl
theorem s_23_59 : Go d 23 59 L (.ref 1 :: st) (HP lx xs M) Q = Go d 23 62 L (.ref 2 :: st) (HP lx xs M) Q := go_gf rfl rfl (by decide) rfl
theorem s_23_62 : Go d 23 62 [o0, o1, some (.int x)] (st) h Q = Go d 23 63 [o0, o1, some (.int x)] (.int x :: st) h Q := go_lo (E := (.iload_n 2, 0, 0, 0)) rfl rfl rfl
theorem s_23_63 : Go d 23 63 [some (.ref r), o1, o2] (st) h Q = Go d 23 64 [some (.ref r), o1, o2] (.ref r :: st) h Q := go_lo (E := (.aload_n 0, 0, 0, 0)) rfl rfl rfl
theorem s_23_64 : Go d 23 64 L (.ref 1 :: st) (HP lx xs M) Q = Go d 23 67 L (.ref 28 :: st) (HP lx xs M) Q := go_gf rfl rfl (by decide) rfl
theorem s_23_67 : Go d 23 67 L (.ref 28 :: st) (HP lx xs M) Q = Go d 23 70 L (.ref 30 :: st) (HP lx xs M) Q := go_gf rfl rfl (by decide) rfl
theorem s_23_70 : Go d 23 70 [o0, o1, some (.int x)] (st) h Q = Go d 23 71 [o0, o1, some (.int x)] (.int x :: st) h Q := go_lo (E := (.iload_n 2, 0, 0, 0)) rfl rfl rfl
theorem s_23_71 : Go d 23 71 L (.int x :: .ref 30 :: st) (HP lx xs M) Q = (ex_in x 6 = true ∧ Go d 23 72 L (.int (M 30 x.toNatClampNeg) :: st) (HP lx xs M) Q) := go_al rfl rfl
theorem s_23_72 {a1 : Int32} {a2 : Int32} : Go (d + 1) 23 72 L [.int a2, .int a1, .ref 2] (HP lx xs M) Q = Go d 61 0 [some (.ref 2), some (.int a1), some (.int a2), none] [] (HP lx xs M) (fun v h2 => Go (d + 1) 23 75 L (ap v []) h2 Q) := go_cx (E := (.invokevirtual 107, 61, 0, 3)) (k' := 61) (as := [.ref 2, .int a1, .int a2]) rfl rfl rfl rfl rfl rfl rfl rfl
theorem s_23_75 : Go d 23 75 [o0, o1, some (.int x)] (st) h Q = Go d 23 78 [o0, o1, some (.int (x + nI 1))] (st) h Q := (ci_i1 ▸ go_lo (E := (.iinc 2 1, 0, 0, 0)) rfl rfl rfl : _ = Go d 23 78 [o0, o1, some (.int (x + nI 1))] (st) h Q)
theorem s_23_78 : Go d 23 78 L (st) h Q = Go d 23 30 L (st) h Q := go_goto rfl
theorem s_23_81 : Go d 23 81 [o0, some (.int x), o2] (st) h Q = Go d 23 82 [o0, some (.int x), o2] (.int x :: st) h Q := go_lo (E := (.iload_n 1, 0, 0, 0)) rfl rfl rfl
theorem s_23_82 : Go d 23 82 L [.int x] h Q = Q (some (.int x)) h := go_ri rfl rfl
theorem s_24_0 : Go d 24 0 [some (.ref r), o1] (st) h Q = Go d 24 1 [some (.ref r), o1] (.ref r :: st) h Q := go_lo (E := (.aload_n 0, 0, 0, 0)) rfl rfl rfl
theorem s_24_1 : Go d 24 1 L (.ref 1 :: st) (HP lx xs M) Q = Go d 24 4 L (.ref 28 :: st) (HP lx xs M) Q := go_gf rfl rfl (by decide) rfl
theorem s_24_4 : Go d 24 4 [some (.ref r), o1] (st) h Q = Go d 24 5 [some (.ref r), o1] (.ref r :: st) h Q := go_lo (E := (.aload_n 0, 0, 0, 0)) rfl rfl rfl
theorem s_24_5 : Go d 24 5 L (.ref 1 :: st) (HP lx xs M) Q = Go d 24 8 L (.ref 2 :: st) (HP lx xs M) Q := go_gf rfl rfl (by decide) rfl
theorem s_24_8 : Go d 24 8 L (.ref 2 :: st) (HP lx xs M) Q = Go d 24 11 L (.int (M 2 0) :: st) (HP lx xs M) Q := go_gf rfl rfl (by decide) rfl
theorem s_24_11 {a1 : Int32} : Go (d + 1) 24 11 L [.int a1, .ref 28] (HP lx xs M) Q = Go d 90 0 [some (.ref 28), some (.int a1), none, none, none] [] (HP lx xs M) (fun v h2 => Go (d + 1) 24 14 L (ap v []) h2 Q) := go_cx (E := (.invokevirtual 115, 90, 0, 1)) (k' := 90) (as := [.ref 28, .int a1]) rfl rfl rfl rfl rfl rfl rfl rfl
theorem s_24_14 : Go d 24 14 [o0, o1] (.int x :: st) h Q = Go d 24 15 [o0, some (.int x)] (st) h Q := go_lo (E := (.istore_n 1, 0, 0, 0)) rfl rfl rfl
theorem s_24_15 : Go d 24 15 [some (.ref r), o1] (st) h Q = Go d 24 16 [some (.ref r), o1] (.ref r :: st) h Q := go_lo (E := (.aload_n 0, 0, 0, 0)) rfl rfl rfl
theorem s_24_16 : Go d 24 16 L (.ref 1 :: st) (HP lx xs M) Q = Go d 24 19 L (.ref 28 :: st) (HP lx xs M) Q := go_gf rfl rfl (by decide) rfl
theorem s_24_19  : Go (d + 1) 24 19 L [.ref 28] (HP lx xs M) Q = Go d 80 0 [some (.ref 28)] [] (HP lx xs M) (fun v h2 => Go (d + 1) 24 22 L (ap v []) h2 Q) := go_cx (E := (.invokevirtual 97, 80, 0, 1)) (k' := 80) (as := [.ref 28]) rfl rfl rfl rfl rfl rfl rfl rfl
theorem s_24_22 : Go d 24 22 [o0, some (.int x)] (st) h Q = Go d 24 23 [o0, some (.int x)] (.int x :: st) h Q := go_lo (E := (.iload_n 1, 0, 0, 0)) rfl rfl rfl
theorem s_24_23 : Go d 24 23 L (.int x :: st) h Q = (if x < 0 then Go d 24 43 L st h Q else Go d 24 26 L st h Q) := go_iflt rfl
theorem s_24_26 : Go d 24 26 [some (.ref r), o1] (st) h Q = Go d 24 27 [some (.ref r), o1] (.ref r :: st) h Q := go_lo (E := (.aload_n 0, 0, 0, 0)) rfl rfl rfl
theorem s_24_27 : Go d 24 27 L (.ref 1 :: st) (HP lx xs M) Q = Go d 24 30 L (.ref 2 :: st) (HP lx xs M) Q := go_gf rfl rfl (by decide) rfl
theorem s_24_30 : Go d 24 30 L (.ref 2 :: st) (HP lx xs M) Q = Go d 24 33 L (.ref 8 :: st) (HP lx xs M) Q := go_gf rfl rfl (by decide) rfl
theorem s_24_33 : Go d 24 33 [some (.ref r), o1] (st) h Q = Go d 24 34 [some (.ref r), o1] (.ref r :: st) h Q := go_lo (E := (.aload_n 0, 0, 0, 0)) rfl rfl rfl
theorem s_24_34 : Go d 24 34 L (.ref 1 :: st) (HP lx xs M) Q = Go d 24 37 L (.ref 28 :: st) (HP lx xs M) Q := go_gf rfl rfl (by decide) rfl
theorem s_24_37 : Go d 24 37 L (.ref 28 :: st) (HP lx xs M) Q = Go d 24 40 L (.ref 31 :: st) (HP lx xs M) Q := go_gf rfl rfl (by decide) rfl
theorem s_24_40 {ar1 : Nat} : Go (d + 1) 24 40 L [.ref ar1, .ref 8] (HP lx xs M) Q = Go d 11 0 [some (.ref 8), some (.ref ar1), none] [] (HP lx xs M) (fun v h2 => Go (d + 1) 24 43 L (ap v []) h2 Q) := go_cx (E := (.invokevirtual 125, 11, 0, 0)) (k' := 11) (as := [.ref 8, .ref ar1]) rfl rfl rfl rfl rfl rfl rfl rfl
theorem s_24_43 : Go d 24 43 [o0, some (.int x)] (st) h Q = Go d 24 44 [o0, some (.int x)] (.int x :: st) h Q := go_lo (E := (.iload_n 1, 0, 0, 0)) rfl rfl rfl
theorem s_24_44 : Go d 24 44 L [.int x] h Q = Q (some (.int x)) h := go_ri rfl rfl
theorem s_25_0 : Go d 25 0 [o0, some (.int x)] (st) h Q = Go d 25 1 [o0, some (.int x)] (.int x :: st) h Q := go_lo (E := (.iload_n 1, 0, 0, 0)) rfl rfl rfl
theorem s_25_1_0 : Go d 25 1 L (.int (nI 0) :: st) h Q = Go d 25 40 L (st) h Q := go_ts (i := 0) (off := 39) rfl (by decide +kernel) (by decide +kernel) rfl (by decide +kernel)
theorem s_25_1_1 : Go d 25 1 L (.int (nI 1) :: st) h Q = Go d 25 48 L (st) h Q := go_ts (i := 1) (off := 47) rfl (by decide +kernel) (by decide +kernel) rfl (by decide +kernel)
theorem s_25_1_2 : Go d 25 1 L (.int (nI 2) :: st) h Q = Go d 25 56 L (st) h Q := go_ts (i := 2) (off := 55) rfl (by decide +kernel) (by decide +kernel) rfl (by decide +kernel)
theorem s_25_1_3 : Go d 25 1 L (.int (nI 3) :: st) h Q = Go d 25 67 L (st) h Q := go_ts (i := 3) (off := 66) rfl (by decide +kernel) (by decide +kernel) rfl (by decide +kernel)
theorem s_25_1_4 : Go d 25 1 L (.int (nI 4) :: st) h Q = Go d 25 78 L (st) h Q := go_ts (i := 4) (off := 77) rfl (by decide +kernel) (by decide +kernel) rfl (by decide +kernel)
theorem s_25_1_5 : Go d 25 1 L (.int (nI 5) :: st) h Q = Go d 25 88 L (st) h Q := go_ts (i := 5) (off := 87) rfl (by decide +kernel) (by decide +kernel) rfl (by decide +kernel)
theorem s_25_1_6 : Go d 25 1 L (.int (nI 6) :: st) h Q = Go d 25 96 L (st) h Q := go_td rfl (by decide +kernel) (by decide +kernel)
theorem s_25_1_7 : Go d 25 1 L (.int (nI 7) :: st) h Q = Go d 25 96 L (st) h Q := go_td rfl (by decide +kernel) (by decide +kernel)
theorem s_25_1_8 : Go d 25 1 L (.int (nI 8) :: st) h Q = Go d 25 96 L (st) h Q := go_td rfl (by decide +kernel) (by decide +kernel)
theorem s_25_1_9 : Go d 25 1 L (.int (nI 9) :: st) h Q = Go d 25 96 L (st) h Q := go_td rfl (by decide +kernel) (by decide +kernel)
theorem s_25_1_10 : Go d 25 1 L (.int (nI 10) :: st) h Q = Go d 25 96 L (st) h Q := go_td rfl (by decide +kernel) (by decide +kernel)
theorem s_25_1_11 : Go d 25 1 L (.int (nI 11) :: st) h Q = Go d 25 96 L (st) h Q := go_td rfl (by decide +kernel) (by decide +kernel)
theorem sd_25_1 (hx : x.toInt < 0 ∨ 5 < x.toInt) : Go d 25 1 L (.int x :: st) h Q = Go d 25 96 L st h Q := go_td rfl hx (by decide +kernel)
theorem s_25_40 : Go d 25 40 [some (.ref r), o1] (st) h Q = Go d 25 41 [some (.ref r), o1] (.ref r :: st) h Q := go_lo (E := (.aload_n 0, 0, 0, 0)) rfl rfl rfl
theorem s_25_41 : Go d 25 41 L (.ref 1 :: st) (HP lx xs M) Q = Go d 25 44 L (.ref 2 :: st) (HP lx xs M) Q := go_gf rfl rfl (by decide) rfl
theorem s_25_44 : Go d 25 44 L (.ref 2 :: st) (HP lx xs M) Q = Go d 25 47 L (.int (M 2 0) :: st) (HP lx xs M) Q := go_gf rfl rfl (by decide) rfl
theorem s_25_47 : Go d 25 47 L [.int x] h Q = Q (some (.int x)) h := go_ri rfl rfl
theorem s_25_48 : Go d 25 48 [some (.ref r), o1] (st) h Q = Go d 25 49 [some (.ref r), o1] (.ref r :: st) h Q := go_lo (E := (.aload_n 0, 0, 0, 0)) rfl rfl rfl
theorem s_25_49 : Go d 25 49 L (.ref 1 :: st) (HP lx xs M) Q = Go d 25 52 L (.ref 2 :: st) (HP lx xs M) Q := go_gf rfl rfl (by decide) rfl
theorem s_25_52 : Go d 25 52 L (.ref 2 :: st) (HP lx xs M) Q = Go d 25 55 L (.int (M 2 1) :: st) (HP lx xs M) Q := go_gf rfl rfl (by decide) rfl
theorem s_25_55 : Go d 25 55 L [.int x] h Q = Q (some (.int x)) h := go_ri rfl rfl
theorem s_25_56 : Go d 25 56 [some (.ref r), o1] (st) h Q = Go d 25 57 [some (.ref r), o1] (.ref r :: st) h Q := go_lo (E := (.aload_n 0, 0, 0, 0)) rfl rfl rfl
theorem s_25_57 : Go d 25 57 L (.ref 1 :: st) (HP lx xs M) Q = Go d 25 60 L (.ref 2 :: st) (HP lx xs M) Q := go_gf rfl rfl (by decide) rfl
theorem s_25_60 : Go d 25 60 L (.ref 2 :: st) (HP lx xs M) Q = Go d 25 63 L (.ref 8 :: st) (HP lx xs M) Q := go_gf rfl rfl (by decide) rfl
theorem s_25_63 : Go d 25 63 L (.ref 8 :: st) (HP lx xs M) Q = Go d 25 66 L (.int (M 8 0) :: st) (HP lx xs M) Q := go_gf rfl rfl (by decide) rfl
theorem s_25_66 : Go d 25 66 L [.int x] h Q = Q (some (.int x)) h := go_ri rfl rfl
theorem s_25_67 : Go d 25 67 [some (.ref r), o1] (st) h Q = Go d 25 68 [some (.ref r), o1] (.ref r :: st) h Q := go_lo (E := (.aload_n 0, 0, 0, 0)) rfl rfl rfl
theorem s_25_68 : Go d 25 68 L (.ref 1 :: st) (HP lx xs M) Q = Go d 25 71 L (.ref 2 :: st) (HP lx xs M) Q := go_gf rfl rfl (by decide) rfl
theorem s_25_71 : Go d 25 71 L (.ref 2 :: st) (HP lx xs M) Q = Go d 25 74 L (.ref 8 :: st) (HP lx xs M) Q := go_gf rfl rfl (by decide) rfl
theorem s_25_74 : Go d 25 74 L (.ref 8 :: st) (HP lx xs M) Q = Go d 25 77 L (.int (M 8 1) :: st) (HP lx xs M) Q := go_gf rfl rfl (by decide) rfl
theorem s_25_77 : Go d 25 77 L [.int x] h Q = Q (some (.int x)) h := go_ri rfl rfl
theorem s_25_78 : Go d 25 78 [some (.ref r), o1] (st) h Q = Go d 25 79 [some (.ref r), o1] (.ref r :: st) h Q := go_lo (E := (.aload_n 0, 0, 0, 0)) rfl rfl rfl
theorem s_25_79 : Go d 25 79 L (.ref 1 :: st) (HP lx xs M) Q = Go d 25 82 L (.ref 2 :: st) (HP lx xs M) Q := go_gf rfl rfl (by decide) rfl
theorem s_25_82 : Go d 25 82 L (st) h Q = Go d 25 84 L (.int (nI 15) :: st) h Q := go_bi rfl ci_b15
theorem s_25_84 {a1 : Int32} : Go (d + 1) 25 84 L [.int a1, .ref 2] (HP lx xs M) Q = Go d 65 0 [some (.ref 2), some (.int a1), none, none] [] (HP lx xs M) (fun v h2 => Go (d + 1) 25 87 L (ap v []) h2 Q) := go_cx (E := (.invokevirtual 140, 65, 0, 3)) (k' := 65) (as := [.ref 2, .int a1]) rfl rfl rfl rfl rfl rfl rfl rfl
theorem s_25_87 : Go d 25 87 L [.int x] h Q = Q (some (.int x)) h := go_ri rfl rfl
theorem s_25_88 : Go d 25 88 [some (.ref r), o1] (st) h Q = Go d 25 89 [some (.ref r), o1] (.ref r :: st) h Q := go_lo (E := (.aload_n 0, 0, 0, 0)) rfl rfl rfl
theorem s_25_89 : Go d 25 89 L (.ref 1 :: st) (HP lx xs M) Q = Go d 25 92 L (.ref 2 :: st) (HP lx xs M) Q := go_gf rfl rfl (by decide) rfl
theorem s_25_92  : Go (d + 1) 25 92 L [.ref 2] (HP lx xs M) Q = Go d 66 0 [some (.ref 2), none, none] [] (HP lx xs M) (fun v h2 => Go (d + 1) 25 95 L (ap v []) h2 Q) := go_cx (E := (.invokevirtual 143, 66, 0, 3)) (k' := 66) (as := [.ref 2]) rfl rfl rfl rfl rfl rfl rfl rfl
theorem s_25_95 : Go d 25 95 L [.int x] h Q = Q (some (.int x)) h := go_ri rfl rfl
theorem s_25_96 : Go d 25 96 L (st) h Q = Go d 25 97 L (.int (-1) :: st) h Q := go_ic rfl ci_im1
theorem s_25_97 : Go d 25 97 L [.int x] h Q = Q (some (.int x)) h := go_ri rfl rfl
theorem s_26_0 : Go d 26 0 [some (.ref r), o1, o2, o3] (st) h Q = Go d 26 1 [some (.ref r), o1, o2, o3] (.ref r :: st) h Q := go_lo (E := (.aload_n 0, 0, 0, 0)) rfl rfl rfl
theorem s_26_1 : Go d 26 1 L (.ref 1 :: st) (HP lx xs M) Q = Go d 26 4 L (.ref 2 :: st) (HP lx xs M) Q := go_gf rfl rfl (by decide) rfl
theorem s_26_4 : Go d 26 4 [o0, some (.int x), o2, o3] (st) h Q = Go d 26 5 [o0, some (.int x), o2, o3] (.int x :: st) h Q := go_lo (E := (.iload_n 1, 0, 0, 0)) rfl rfl rfl
theorem s_26_5 : Go d 26 5 [o0, o1, some (.int x), o3] (st) h Q = Go d 26 6 [o0, o1, some (.int x), o3] (.int x :: st) h Q := go_lo (E := (.iload_n 2, 0, 0, 0)) rfl rfl rfl
theorem s_26_6 : Go d 26 6 [o0, o1, o2, some (.int x)] (st) h Q = Go d 26 7 [o0, o1, o2, some (.int x)] (.int x :: st) h Q := go_lo (E := (.iload_n 3, 0, 0, 0)) rfl rfl rfl
theorem s_26_7 {a1 : Int32} {a2 : Int32} {a3 : Int32} : Go (d + 1) 26 7 L [.int a3, .int a2, .int a1, .ref 2] (HP lx xs M) Q = Go d 58 0 [some (.ref 2), some (.int a1), some (.int a2), some (.int a3)] [] (HP lx xs M) (fun v h2 => Go (d + 1) 26 10 L (ap v []) h2 Q) := go_cx (E := (.invokevirtual 146, 58, 0, 3)) (k' := 58) (as := [.ref 2, .int a1, .int a2, .int a3]) rfl rfl rfl rfl rfl rfl rfl rfl
theorem s_26_10 : Go d 26 10 L (.int x :: st) h Q = (if x = 0 then Go d 26 13 L st h Q else Go d 26 15 L st h Q) := go_ifne rfl
theorem s_26_13 : Go d 26 13 L (st) h Q = Go d 26 14 L (.int (-1) :: st) h Q := go_ic rfl ci_im1
theorem s_26_14 : Go d 26 14 L [.int x] h Q = Q (some (.int x)) h := go_ri rfl rfl
theorem s_26_15 : Go d 26 15 [some (.ref r), o1, o2, o3] (st) h Q = Go d 26 16 [some (.ref r), o1, o2, o3] (.ref r :: st) h Q := go_lo (E := (.aload_n 0, 0, 0, 0)) rfl rfl rfl
theorem s_26_16 : Go d 26 16 L (.ref 1 :: st) (HP lx xs M) Q = Go d 26 19 L (.ref 2 :: st) (HP lx xs M) Q := go_gf rfl rfl (by decide) rfl
theorem s_26_19 : Go d 26 19 [some (.ref r), o1, o2, o3] (st) h Q = Go d 26 20 [some (.ref r), o1, o2, o3] (.ref r :: st) h Q := go_lo (E := (.aload_n 0, 0, 0, 0)) rfl rfl rfl
theorem s_26_20 : Go d 26 20 L (.ref 1 :: st) (HP lx xs M) Q = Go d 26 23 L (.ref 2 :: st) (HP lx xs M) Q := go_gf rfl rfl (by decide) rfl
theorem s_26_23 : Go d 26 23 L (.ref 2 :: st) (HP lx xs M) Q = Go d 26 26 L (.ref 5 :: st) (HP lx xs M) Q := go_gf rfl rfl (by decide) rfl
theorem s_26_26 : Go d 26 26 [o0, some (.int x), o2, o3] (st) h Q = Go d 26 27 [o0, some (.int x), o2, o3] (.int x :: st) h Q := go_lo (E := (.iload_n 1, 0, 0, 0)) rfl rfl rfl
theorem s_26_27 : Go d 26 27 [o0, o1, some (.int x), o3] (st) h Q = Go d 26 28 [o0, o1, some (.int x), o3] (.int x :: st) h Q := go_lo (E := (.iload_n 2, 0, 0, 0)) rfl rfl rfl
theorem s_26_28 : Go d 26 28 [o0, o1, o2, some (.int x)] (st) h Q = Go d 26 29 [o0, o1, o2, some (.int x)] (.int x :: st) h Q := go_lo (E := (.iload_n 3, 0, 0, 0)) rfl rfl rfl
theorem s_26_29 {a0 : Int32} {a1 : Int32} {a2 : Int32} {zr0 : Nat} {zr1 : Nat} : Go (d + 1) 26 29 L [.int a2, .int a1, .int a0, .ref zr1, .ref zr0] h Q = Go d 51 0 [some (.int a0), some (.int a1), some (.int a2)] [] h (fun v h2 => Go (d + 1) 26 32 L (ap v [.ref zr1, .ref zr0]) h2 Q) := go_cx (E := (.invokestatic 150, 51, 0, 0)) (k' := 51) (as := [.int a0, .int a1, .int a2]) rfl rfl rfl rfl rfl rfl rfl rfl
theorem s_26_32 {a2 : Int32} {ar1 : Nat} : Go (d + 1) 26 32 L [.int a2, .ref ar1, .ref 2] (HP lx xs M) Q = Go d 67 0 [some (.ref 2), some (.ref ar1), some (.int a2), none, none, none] [] (HP lx xs M) (fun v h2 => Go (d + 1) 26 35 L (ap v []) h2 Q) := go_cx (E := (.invokevirtual 154, 67, 0, 3)) (k' := 67) (as := [.ref 2, .ref ar1, .int a2]) rfl rfl rfl rfl rfl rfl rfl rfl
theorem s_26_35 : Go d 26 35 L (.int x :: st) h Q = (if x = 0 then Go d 26 42 L st h Q else Go d 26 38 L st h Q) := go_ifeq rfl
theorem s_26_38 : Go d 26 38 L (st) h Q = Go d 26 39 L (.int (nI 1) :: st) h Q := go_ic rfl ci_i1
theorem s_26_39 : Go d 26 39 L (st) h Q = Go d 26 43 L (st) h Q := go_goto rfl
theorem s_26_42 : Go d 26 42 L (st) h Q = Go d 26 43 L (.int (nI 0) :: st) h Q := go_ic rfl ci_i0
theorem s_26_43 : Go d 26 43 L [.int x] h Q = Q (some (.int x)) h := go_ri rfl rfl
theorem s_27_0 : Go d 27 0 [some (.ref r), o1, o2, o3, o4] (st) h Q = Go d 27 1 [some (.ref r), o1, o2, o3, o4] (.ref r :: st) h Q := go_lo (E := (.aload_n 0, 0, 0, 0)) rfl rfl rfl
theorem s_27_1 : Go d 27 1 L (.ref 1 :: st) (HP lx xs M) Q = Go d 27 4 L (.ref 2 :: st) (HP lx xs M) Q := go_gf rfl rfl (by decide) rfl
theorem s_27_4 : Go d 27 4 [o0, some (.int x), o2, o3, o4] (st) h Q = Go d 27 5 [o0, some (.int x), o2, o3, o4] (.int x :: st) h Q := go_lo (E := (.iload_n 1, 0, 0, 0)) rfl rfl rfl
theorem s_27_5 : Go d 27 5 [o0, o1, some (.int x), o3, o4] (st) h Q = Go d 27 6 [o0, o1, some (.int x), o3, o4] (.int x :: st) h Q := go_lo (E := (.iload_n 2, 0, 0, 0)) rfl rfl rfl
theorem s_27_6 : Go d 27 6 [o0, o1, o2, some (.int x), o4] (st) h Q = Go d 27 7 [o0, o1, o2, some (.int x), o4] (.int x :: st) h Q := go_lo (E := (.iload_n 3, 0, 0, 0)) rfl rfl rfl
theorem s_27_7 {a1 : Int32} {a2 : Int32} {a3 : Int32} : Go (d + 1) 27 7 L [.int a3, .int a2, .int a1, .ref 2] (HP lx xs M) Q = Go d 58 0 [some (.ref 2), some (.int a1), some (.int a2), some (.int a3)] [] (HP lx xs M) (fun v h2 => Go (d + 1) 27 10 L (ap v []) h2 Q) := go_cx (E := (.invokevirtual 146, 58, 0, 3)) (k' := 58) (as := [.ref 2, .int a1, .int a2, .int a3]) rfl rfl rfl rfl rfl rfl rfl rfl
theorem s_27_10 : Go d 27 10 L (.int x :: st) h Q = (if x = 0 then Go d 27 13 L st h Q else Go d 27 15 L st h Q) := go_ifne rfl
theorem s_27_13 : Go d 27 13 L (st) h Q = Go d 27 14 L (.int (-1) :: st) h Q := go_ic rfl ci_im1
theorem s_27_14 : Go d 27 14 L [.int x] h Q = Q (some (.int x)) h := go_ri rfl rfl
theorem s_27_15 : Go d 27 15 [o0, some (.int x), o2, o3, o4] (st) h Q = Go d 27 16 [o0, some (.int x), o2, o3, o4] (.int x :: st) h Q := go_lo (E := (.iload_n 1, 0, 0, 0)) rfl rfl rfl
theorem s_27_16 : Go d 27 16 [o0, o1, some (.int x), o3, o4] (st) h Q = Go d 27 17 [o0, o1, some (.int x), o3, o4] (.int x :: st) h Q := go_lo (E := (.iload_n 2, 0, 0, 0)) rfl rfl rfl
theorem s_27_17 : Go d 27 17 [o0, o1, o2, some (.int x), o4] (st) h Q = Go d 27 18 [o0, o1, o2, some (.int x), o4] (.int x :: st) h Q := go_lo (E := (.iload_n 3, 0, 0, 0)) rfl rfl rfl
theorem s_27_18 {a0 : Int32} {a1 : Int32} {a2 : Int32} : Go (d + 1) 27 18 L [.int a2, .int a1, .int a0] h Q = Go d 51 0 [some (.int a0), some (.int a1), some (.int a2)] [] h (fun v h2 => Go (d + 1) 27 21 L (ap v []) h2 Q) := go_cx (E := (.invokestatic 150, 51, 0, 0)) (k' := 51) (as := [.int a0, .int a1, .int a2]) rfl rfl rfl rfl rfl rfl rfl rfl
theorem s_27_21 : Go d 27 21 [o0, o1, o2, o3, o4] (.int x :: st) h Q = Go d 27 23 [o0, o1, o2, o3, some (.int x)] (st) h Q := go_lo (E := (.istore 4, 0, 0, 0)) rfl rfl rfl
theorem s_27_23 : Go d 27 23 [some (.ref r), o1, o2, o3, o4] (st) h Q = Go d 27 24 [some (.ref r), o1, o2, o3, o4] (.ref r :: st) h Q := go_lo (E := (.aload_n 0, 0, 0, 0)) rfl rfl rfl
theorem s_27_24 : Go d 27 24 L (.ref 1 :: st) (HP lx xs M) Q = Go d 27 27 L (.ref 2 :: st) (HP lx xs M) Q := go_gf rfl rfl (by decide) rfl
theorem s_27_27 : Go d 27 27 [some (.ref r), o1, o2, o3, o4] (st) h Q = Go d 27 28 [some (.ref r), o1, o2, o3, o4] (.ref r :: st) h Q := go_lo (E := (.aload_n 0, 0, 0, 0)) rfl rfl rfl
theorem s_27_28 : Go d 27 28 L (.ref 1 :: st) (HP lx xs M) Q = Go d 27 31 L (.ref 2 :: st) (HP lx xs M) Q := go_gf rfl rfl (by decide) rfl
theorem s_27_31 : Go d 27 31 L (.ref 2 :: st) (HP lx xs M) Q = Go d 27 34 L (.ref 5 :: st) (HP lx xs M) Q := go_gf rfl rfl (by decide) rfl
theorem s_27_34 : Go d 27 34 [o0, o1, o2, o3, some (.int x)] (st) h Q = Go d 27 36 [o0, o1, o2, o3, some (.int x)] (.int x :: st) h Q := go_lo (E := (.iload 4, 0, 0, 0)) rfl rfl rfl
theorem s_27_36 {a2 : Int32} {ar1 : Nat} : Go (d + 1) 27 36 L [.int a2, .ref ar1, .ref 2] (HP lx xs M) Q = Go d 67 0 [some (.ref 2), some (.ref ar1), some (.int a2), none, none, none] [] (HP lx xs M) (fun v h2 => Go (d + 1) 27 39 L (ap v []) h2 Q) := go_cx (E := (.invokevirtual 154, 67, 0, 3)) (k' := 67) (as := [.ref 2, .ref ar1, .int a2]) rfl rfl rfl rfl rfl rfl rfl rfl
theorem s_27_39 : Go d 27 39 L (.int x :: st) h Q = (if x = 0 then Go d 27 42 L st h Q else Go d 27 45 L st h Q) := go_ifne rfl
theorem s_27_42 : Go d 27 42 L (st) h Q = Go d 27 44 L (.int (-2) :: st) h Q := go_bi rfl ci_bm2
theorem s_27_44 : Go d 27 44 L [.int x] h Q = Q (some (.int x)) h := go_ri rfl rfl
theorem s_27_45 : Go d 27 45 [some (.ref r), o1, o2, o3, o4] (st) h Q = Go d 27 46 [some (.ref r), o1, o2, o3, o4] (.ref r :: st) h Q := go_lo (E := (.aload_n 0, 0, 0, 0)) rfl rfl rfl
theorem s_27_46 : Go d 27 46 L (.ref 1 :: st) (HP lx xs M) Q = Go d 27 49 L (.ref 2 :: st) (HP lx xs M) Q := go_gf rfl rfl (by decide) rfl
theorem s_27_49 : Go d 27 49 [o0, o1, o2, o3, some (.int x)] (st) h Q = Go d 27 51 [o0, o1, o2, o3, some (.int x)] (.int x :: st) h Q := go_lo (E := (.iload 4, 0, 0, 0)) rfl rfl rfl
theorem s_27_51 {a1 : Int32} : Go (d + 1) 27 51 L [.int a1, .ref 2] (HP lx xs M) Q = Go d 68 0 [some (.ref 2), some (.int a1), none, none] [] (HP lx xs M) (fun v h2 => Go (d + 1) 27 54 L (ap v []) h2 Q) := go_cx (E := (.invokevirtual 158, 68, 0, 3)) (k' := 68) (as := [.ref 2, .int a1]) rfl rfl rfl rfl rfl rfl rfl rfl
theorem s_27_54 : Go d 27 54 [some (.ref r), o1, o2, o3, o4] (st) h Q = Go d 27 55 [some (.ref r), o1, o2, o3, o4] (.ref r :: st) h Q := go_lo (E := (.aload_n 0, 0, 0, 0)) rfl rfl rfl
theorem s_27_55 : Go d 27 55 L (.ref 1 :: st) (HP lx xs M) Q = Go d 27 58 L (.ref 2 :: st) (HP lx xs M) Q := go_gf rfl rfl (by decide) rfl
theorem s_27_58 : Go d 27 58 [o0, o1, some (.int x), o3, o4] (st) h Q = Go d 27 59 [o0, o1, some (.int x), o3, o4] (.int x :: st) h Q := go_lo (E := (.iload_n 2, 0, 0, 0)) rfl rfl rfl
theorem s_27_59 : Go d 27 59 [o0, o1, o2, some (.int x), o4] (st) h Q = Go d 27 60 [o0, o1, o2, some (.int x), o4] (.int x :: st) h Q := go_lo (E := (.iload_n 3, 0, 0, 0)) rfl rfl rfl
theorem s_27_60 {a1 : Int32} {a2 : Int32} : Go (d + 1) 27 60 L [.int a2, .int a1, .ref 2] (HP lx xs M) Q = Go d 59 0 [some (.ref 2), some (.int a1), some (.int a2)] [] (HP lx xs M) (fun v h2 => Go (d + 1) 27 63 L (ap v []) h2 Q) := go_cx (E := (.invokevirtual 58, 59, 0, 3)) (k' := 59) (as := [.ref 2, .int a1, .int a2]) rfl rfl rfl rfl rfl rfl rfl rfl
theorem s_27_63 : Go d 27 63 L [.int x] h Q = Q (some (.int x)) h := go_ri rfl rfl
theorem s_28_0 : Go d 28 0 [some (.ref r)] (st) h Q = Go d 28 1 [some (.ref r)] (.ref r :: st) h Q := go_lo (E := (.aload_n 0, 0, 0, 0)) rfl rfl rfl
theorem s_28_1 : Go d 28 1 L (.ref 1 :: st) (HP lx xs M) Q = Go d 28 4 L (.ref 2 :: st) (HP lx xs M) Q := go_gf rfl rfl (by decide) rfl
theorem s_28_4  : Go (d + 1) 28 4 L [.ref 2] (HP lx xs M) Q = Go d 69 0 [some (.ref 2), none, none, none] [] (HP lx xs M) (fun v h2 => Go (d + 1) 28 7 L (ap v []) h2 Q) := go_cx (E := (.invokevirtual 162, 69, 0, 3)) (k' := 69) (as := [.ref 2]) rfl rfl rfl rfl rfl rfl rfl rfl
theorem s_28_7 : Go d 28 7 L [.int x] h Q = Q (some (.int x)) h := go_ri rfl rfl
theorem s_29_0 : Go d 29 0 [o0, some (.int x)] (st) h Q = Go d 29 1 [o0, some (.int x)] (.int x :: st) h Q := go_lo (E := (.iload_n 1, 0, 0, 0)) rfl rfl rfl
theorem s_29_1 {a0 : Int32} : Go (d + 1) 29 1 L [.int a0] h Q = Go d 46 0 [some (.int a0)] [] h (fun v h2 => Go (d + 1) 29 4 L (ap v []) h2 Q) := go_cx (E := (.invokestatic 66, 46, 0, 0)) (k' := 46) (as := [.int a0]) rfl rfl rfl rfl rfl rfl rfl rfl
theorem s_29_4 : Go d 29 4 L (.int x :: st) h Q = (if x = 0 then Go d 29 7 L st h Q else Go d 29 9 L st h Q) := go_ifne rfl
theorem s_29_7 : Go d 29 7 L (st) h Q = Go d 29 8 L (.int (-1) :: st) h Q := go_ic rfl ci_im1
theorem s_29_8 : Go d 29 8 L [.int x] h Q = Q (some (.int x)) h := go_ri rfl rfl
theorem s_29_9 : Go d 29 9 [some (.ref r), o1] (st) h Q = Go d 29 10 [some (.ref r), o1] (.ref r :: st) h Q := go_lo (E := (.aload_n 0, 0, 0, 0)) rfl rfl rfl
theorem s_29_10 : Go d 29 10 L (.ref 1 :: st) (HP lx xs M) Q = Go d 29 13 L (.ref 2 :: st) (HP lx xs M) Q := go_gf rfl rfl (by decide) rfl
theorem s_29_13 : Go d 29 13 L (.ref 2 :: st) (HP lx xs M) Q = Go d 29 16 L (.int (M 2 0) :: st) (HP lx xs M) Q := go_gf rfl rfl (by decide) rfl
theorem s_29_16 : Go d 29 16 [o0, some (.int x)] (st) h Q = Go d 29 17 [o0, some (.int x)] (.int x :: st) h Q := go_lo (E := (.iload_n 1, 0, 0, 0)) rfl rfl rfl
theorem s_29_17 {a0 : Int32} {z0 : Int32} : Go (d + 1) 29 17 L [.int a0, .int z0] h Q = Go d 12 0 [some (.int a0)] [] h (fun v h2 => Go (d + 1) 29 20 L (ap v [.int z0]) h2 Q) := go_cx (E := (.invokestatic 165, 12, 0, 0)) (k' := 12) (as := [.int a0]) rfl rfl rfl rfl rfl rfl rfl rfl
theorem s_29_20 : Go d 29 20 L (.int y :: .int x :: st) h Q = Go d 29 21 L (.int (x * y) :: st) h Q := go_op (E := (.imul, 0, 0, 0)) rfl rfl
theorem s_29_21 : Go d 29 21 L (st) h Q = Go d 29 23 L (.int (nI 12) :: st) h Q := go_bi rfl ci_b12
theorem s_29_23 : Go d 29 23 L (.int y :: .int x :: st) h Q = (if y < x then Go d 29 26 L st h Q else Go d 29 29 L st h Q) := go_icle rfl
theorem s_29_26 : Go d 29 26 L (st) h Q = Go d 29 28 L (.int (-3) :: st) h Q := go_bi rfl ci_bm3
theorem s_29_28 : Go d 29 28 L [.int x] h Q = Q (some (.int x)) h := go_ri rfl rfl
theorem s_29_29 : Go d 29 29 [some (.ref r), o1] (st) h Q = Go d 29 30 [some (.ref r), o1] (.ref r :: st) h Q := go_lo (E := (.aload_n 0, 0, 0, 0)) rfl rfl rfl
theorem s_29_30 : Go d 29 30 L (.ref 1 :: st) (HP lx xs M) Q = Go d 29 33 L (.ref 35 :: st) (HP lx xs M) Q := go_gf rfl rfl (by decide) rfl
theorem s_29_33 : Go d 29 33 [some (.ref r), o1] (st) h Q = Go d 29 34 [some (.ref r), o1] (.ref r :: st) h Q := go_lo (E := (.aload_n 0, 0, 0, 0)) rfl rfl rfl
theorem s_29_34 : Go d 29 34 L (.ref 1 :: st) (HP lx xs M) Q = Go d 29 37 L (.ref 2 :: st) (HP lx xs M) Q := go_gf rfl rfl (by decide) rfl
theorem s_29_37 : Go d 29 37 [o0, some (.int x)] (st) h Q = Go d 29 38 [o0, some (.int x)] (.int x :: st) h Q := go_lo (E := (.iload_n 1, 0, 0, 0)) rfl rfl rfl
theorem s_29_38 {a2 : Int32} {ar1 : Nat} : Go (d + 1) 29 38 L [.int a2, .ref ar1, .ref 35] (HP lx xs M) Q = Go d 93 0 [some (.ref 35), some (.ref ar1), some (.int a2), none, none] [] (HP lx xs M) (fun v h2 => Go (d + 1) 29 41 L (ap v []) h2 Q) := go_cx (E := (.invokevirtual 170, 93, 0, 4)) (k' := 93) (as := [.ref 35, .ref ar1, .int a2]) rfl rfl rfl rfl rfl rfl rfl rfl
theorem s_29_41 : Go d 29 41 L [.int x] h Q = Q (some (.int x)) h := go_ri rfl rfl
theorem s_30_0 : Go d 30 0 [o0, some (.int x), o2, o3] (st) h Q = Go d 30 1 [o0, some (.int x), o2, o3] (.int x :: st) h Q := go_lo (E := (.iload_n 1, 0, 0, 0)) rfl rfl rfl
theorem s_30_1 {a0 : Int32} : Go (d + 1) 30 1 L [.int a0] h Q = Go d 46 0 [some (.int a0)] [] h (fun v h2 => Go (d + 1) 30 4 L (ap v []) h2 Q) := go_cx (E := (.invokestatic 66, 46, 0, 0)) (k' := 46) (as := [.int a0]) rfl rfl rfl rfl rfl rfl rfl rfl
theorem s_30_4 : Go d 30 4 L (.int x :: st) h Q = (if x = 0 then Go d 30 7 L st h Q else Go d 30 9 L st h Q) := go_ifne rfl
theorem s_30_7 : Go d 30 7 L (st) h Q = Go d 30 8 L (.int (-1) :: st) h Q := go_ic rfl ci_im1
theorem s_30_8 : Go d 30 8 L [.int x] h Q = Q (some (.int x)) h := go_ri rfl rfl
theorem s_30_9 : Go d 30 9 [some (.ref r), o1, o2, o3] (st) h Q = Go d 30 10 [some (.ref r), o1, o2, o3] (.ref r :: st) h Q := go_lo (E := (.aload_n 0, 0, 0, 0)) rfl rfl rfl
theorem s_30_10 : Go d 30 10 L (.ref 1 :: st) (HP lx xs M) Q = Go d 30 13 L (.ref 2 :: st) (HP lx xs M) Q := go_gf rfl rfl (by decide) rfl
theorem s_30_13 : Go d 30 13 L (.ref 2 :: st) (HP lx xs M) Q = Go d 30 16 L (.int (M 2 0) :: st) (HP lx xs M) Q := go_gf rfl rfl (by decide) rfl
theorem s_30_16 : Go d 30 16 [o0, some (.int x), o2, o3] (st) h Q = Go d 30 17 [o0, some (.int x), o2, o3] (.int x :: st) h Q := go_lo (E := (.iload_n 1, 0, 0, 0)) rfl rfl rfl
theorem s_30_17 {a0 : Int32} {z0 : Int32} : Go (d + 1) 30 17 L [.int a0, .int z0] h Q = Go d 12 0 [some (.int a0)] [] h (fun v h2 => Go (d + 1) 30 20 L (ap v [.int z0]) h2 Q) := go_cx (E := (.invokestatic 165, 12, 0, 0)) (k' := 12) (as := [.int a0]) rfl rfl rfl rfl rfl rfl rfl rfl
theorem s_30_20 : Go d 30 20 L (.int y :: .int x :: st) h Q = Go d 30 21 L (.int (x * y) :: st) h Q := go_op (E := (.imul, 0, 0, 0)) rfl rfl
theorem s_30_21 : Go d 30 21 [some (.ref r), o1, o2, o3] (st) h Q = Go d 30 22 [some (.ref r), o1, o2, o3] (.ref r :: st) h Q := go_lo (E := (.aload_n 0, 0, 0, 0)) rfl rfl rfl
theorem s_30_22 : Go d 30 22 L (.ref 1 :: st) (HP lx xs M) Q = Go d 30 25 L (.ref 2 :: st) (HP lx xs M) Q := go_gf rfl rfl (by decide) rfl
theorem s_30_25 : Go d 30 25 [o0, some (.int x), o2, o3] (st) h Q = Go d 30 26 [o0, some (.int x), o2, o3] (.int x :: st) h Q := go_lo (E := (.iload_n 1, 0, 0, 0)) rfl rfl rfl
theorem s_30_26 {a1 : Int32} {z0 : Int32} : Go (d + 1) 30 26 L [.int a1, .ref 2, .int z0] (HP lx xs M) Q = Go d 65 0 [some (.ref 2), some (.int a1), none, none] [] (HP lx xs M) (fun v h2 => Go (d + 1) 30 29 L (ap v [.int z0]) h2 Q) := go_cx (E := (.invokevirtual 140, 65, 0, 3)) (k' := 65) (as := [.ref 2, .int a1]) rfl rfl rfl rfl rfl rfl rfl rfl
theorem s_30_29 : Go d 30 29 L (.int y :: .int x :: st) h Q = Go d 30 30 L (.int (x - y) :: st) h Q := go_op (E := (.isub, 0, 0, 0)) rfl rfl
theorem s_30_30 : Go d 30 30 [o0, o1, o2, o3] (.int x :: st) h Q = Go d 30 31 [o0, o1, some (.int x), o3] (st) h Q := go_lo (E := (.istore_n 2, 0, 0, 0)) rfl rfl rfl
theorem s_30_31 : Go d 30 31 [o0, o1, some (.int x), o3] (st) h Q = Go d 30 32 [o0, o1, some (.int x), o3] (.int x :: st) h Q := go_lo (E := (.iload_n 2, 0, 0, 0)) rfl rfl rfl
theorem s_30_32 : Go d 30 32 L (.int x :: st) h Q = (if x = 0 then Go d 30 35 L st h Q else Go d 30 37 L st h Q) := go_ifne rfl
theorem s_30_35 : Go d 30 35 L (st) h Q = Go d 30 36 L (.int (nI 0) :: st) h Q := go_ic rfl ci_i0
theorem s_30_36 : Go d 30 36 L [.int x] h Q = Q (some (.int x)) h := go_ri rfl rfl
theorem s_30_37 : Go d 30 37 [some (.ref r), o1, o2, o3] (st) h Q = Go d 30 38 [some (.ref r), o1, o2, o3] (.ref r :: st) h Q := go_lo (E := (.aload_n 0, 0, 0, 0)) rfl rfl rfl
theorem s_30_38 : Go d 30 38 L (.ref 1 :: st) (HP lx xs M) Q = Go d 30 41 L (.ref 2 :: st) (HP lx xs M) Q := go_gf rfl rfl (by decide) rfl
theorem s_30_41 : Go d 30 41 L (.ref 2 :: st) (HP lx xs M) Q = Go d 30 44 L (.int (M 2 0) :: st) (HP lx xs M) Q := go_gf rfl rfl (by decide) rfl
theorem s_30_44 : Go d 30 44 L (st) h Q = Go d 30 45 L (.int (nI 2) :: st) h Q := go_ic rfl ci_i2
theorem s_30_45 : Go d 30 45 L (.int y :: .int x :: st) h Q = (¬ y = 0 ∧ Go d 30 46 L (.int (x / y) :: st) h Q) := go_idv rfl
theorem s_30_46 : Go d 30 46 [o0, o1, o2, o3] (.int x :: st) h Q = Go d 30 47 [o0, o1, o2, some (.int x)] (st) h Q := go_lo (E := (.istore_n 3, 0, 0, 0)) rfl rfl rfl
theorem s_30_47 : Go d 30 47 [o0, o1, o2, some (.int x)] (st) h Q = Go d 30 48 [o0, o1, o2, some (.int x)] (.int x :: st) h Q := go_lo (E := (.iload_n 3, 0, 0, 0)) rfl rfl rfl
theorem s_30_48 : Go d 30 48 L (.int x :: st) h Q = (if x = 0 then Go d 30 51 L st h Q else Go d 30 54 L st h Q) := go_ifne rfl
theorem s_30_51 : Go d 30 51 L (st) h Q = Go d 30 53 L (.int (-4) :: st) h Q := go_bi rfl ci_bm4
theorem s_30_53 : Go d 30 53 L [.int x] h Q = Q (some (.int x)) h := go_ri rfl rfl
theorem s_30_54 : Go d 30 54 [o0, o1, some (.int x), o3] (st) h Q = Go d 30 55 [o0, o1, some (.int x), o3] (.int x :: st) h Q := go_lo (E := (.iload_n 2, 0, 0, 0)) rfl rfl rfl
theorem s_30_55 : Go d 30 55 [o0, o1, o2, some (.int x)] (st) h Q = Go d 30 56 [o0, o1, o2, some (.int x)] (.int x :: st) h Q := go_lo (E := (.iload_n 3, 0, 0, 0)) rfl rfl rfl
theorem s_30_56 : Go d 30 56 L (.int y :: .int x :: st) h Q = Go d 30 57 L (.int (x + y) :: st) h Q := go_op (E := (.iadd, 0, 0, 0)) rfl rfl
theorem s_30_57 : Go d 30 57 L (st) h Q = Go d 30 58 L (.int (nI 1) :: st) h Q := go_ic rfl ci_i1
theorem s_30_58 : Go d 30 58 L (.int y :: .int x :: st) h Q = Go d 30 59 L (.int (x - y) :: st) h Q := go_op (E := (.isub, 0, 0, 0)) rfl rfl
theorem s_30_59 : Go d 30 59 [o0, o1, o2, some (.int x)] (st) h Q = Go d 30 60 [o0, o1, o2, some (.int x)] (.int x :: st) h Q := go_lo (E := (.iload_n 3, 0, 0, 0)) rfl rfl rfl
theorem s_30_60 : Go d 30 60 L (.int y :: .int x :: st) h Q = (¬ y = 0 ∧ Go d 30 61 L (.int (x / y) :: st) h Q) := go_idv rfl
theorem s_30_61 : Go d 30 61 L [.int x] h Q = Q (some (.int x)) h := go_ri rfl rfl
theorem s_31_0 : Go d 31 0 [some (.ref r)] (st) h Q = Go d 31 1 [some (.ref r)] (.ref r :: st) h Q := go_lo (E := (.aload_n 0, 0, 0, 0)) rfl rfl rfl
theorem s_31_1 : Go d 31 1 L (.ref 1 :: st) (HP lx xs M) Q = Go d 31 4 L (.ref 2 :: st) (HP lx xs M) Q := go_gf rfl rfl (by decide) rfl
theorem s_31_4  : Go (d + 1) 31 4 L [.ref 2] (HP lx xs M) Q = Go d 71 0 [some (.ref 2), none, none] [] (HP lx xs M) (fun v h2 => Go (d + 1) 31 7 L (ap v []) h2 Q) := go_cx (E := (.invokevirtual 174, 71, 0, 3)) (k' := 71) (as := [.ref 2]) rfl rfl rfl rfl rfl rfl rfl rfl
theorem s_31_7 : Go d 31 7 L [.int x] h Q = Q (some (.int x)) h := go_ri rfl rfl
theorem s_32_0 : Go d 32 0 [o0, some (.int x), o2, o3, o4, o5, o6] (st) h Q = Go d 32 1 [o0, some (.int x), o2, o3, o4, o5, o6] (.int x :: st) h Q := go_lo (E := (.iload_n 1, 0, 0, 0)) rfl rfl rfl
theorem s_32_1 {a0 : Int32} : Go (d + 1) 32 1 L [.int a0] h Q = Go d 46 0 [some (.int a0)] [] h (fun v h2 => Go (d + 1) 32 4 L (ap v []) h2 Q) := go_cx (E := (.invokestatic 66, 46, 0, 0)) (k' := 46) (as := [.int a0]) rfl rfl rfl rfl rfl rfl rfl rfl
theorem s_32_4 : Go d 32 4 L (.int x :: st) h Q = (if x = 0 then Go d 32 16 L st h Q else Go d 32 7 L st h Q) := go_ifeq rfl
theorem s_32_7 : Go d 32 7 [o0, o1, some (.int x), o3, o4, o5, o6] (st) h Q = Go d 32 8 [o0, o1, some (.int x), o3, o4, o5, o6] (.int x :: st) h Q := go_lo (E := (.iload_n 2, 0, 0, 0)) rfl rfl rfl
theorem s_32_8 : Go d 32 8 L (.int x :: st) h Q = (if x < 0 then Go d 32 16 L st h Q else Go d 32 11 L st h Q) := go_iflt rfl
theorem s_32_11 : Go d 32 11 [o0, o1, some (.int x), o3, o4, o5, o6] (st) h Q = Go d 32 12 [o0, o1, some (.int x), o3, o4, o5, o6] (.int x :: st) h Q := go_lo (E := (.iload_n 2, 0, 0, 0)) rfl rfl rfl
theorem s_32_12 : Go d 32 12 L (st) h Q = Go d 32 13 L (.int (nI 4) :: st) h Q := go_ic rfl ci_i4
theorem s_32_13 : Go d 32 13 L (.int y :: .int x :: st) h Q = (if x < y then Go d 32 18 L st h Q else Go d 32 16 L st h Q) := go_iclt rfl
theorem s_32_16 : Go d 32 16 L (st) h Q = Go d 32 17 L (.int (-1) :: st) h Q := go_ic rfl ci_im1
theorem s_32_17 : Go d 32 17 L [.int x] h Q = Q (some (.int x)) h := go_ri rfl rfl
theorem s_32_18 : Go d 32 18 [o0, some (.int x), o2, o3, o4, o5, o6] (st) h Q = Go d 32 19 [o0, some (.int x), o2, o3, o4, o5, o6] (.int x :: st) h Q := go_lo (E := (.iload_n 1, 0, 0, 0)) rfl rfl rfl
theorem s_32_19 : Go d 32 19 [o0, o1, o2, o3, o4, o5, o6] (.int x :: st) h Q = Go d 32 20 [o0, o1, o2, some (.int x), o4, o5, o6] (st) h Q := go_lo (E := (.istore_n 3, 0, 0, 0)) rfl rfl rfl
theorem s_32_20 : Go d 32 20 L (st) h Q = Go d 32 22 L (.int (-4) :: st) h Q := go_bi rfl ci_bm4
theorem s_32_22 : Go d 32 22 [o0, o1, o2, o3, o4, o5, o6] (.int x :: st) h Q = Go d 32 24 [o0, o1, o2, o3, some (.int x), o5, o6] (st) h Q := go_lo (E := (.istore 4, 0, 0, 0)) rfl rfl rfl
theorem s_32_24 : Go d 32 24 L (st) h Q = Go d 32 25 L (.int (nI 0) :: st) h Q := go_ic rfl ci_i0
theorem s_32_25 : Go d 32 25 [o0, o1, o2, o3, o4, o5, o6] (.int x :: st) h Q = Go d 32 27 [o0, o1, o2, o3, o4, some (.int x), o6] (st) h Q := go_lo (E := (.istore 5, 0, 0, 0)) rfl rfl rfl
theorem s_32_27 : Go d 32 27 [o0, o1, o2, o3, o4, some (.int x), o6] (st) h Q = Go d 32 29 [o0, o1, o2, o3, o4, some (.int x), o6] (.int x :: st) h Q := go_lo (E := (.iload 5, 0, 0, 0)) rfl rfl rfl
theorem s_32_29 : Go d 32 29 L (st) h Q = Go d 32 30 L (.int (nI 4) :: st) h Q := go_ic rfl ci_i4
theorem s_32_30 : Go d 32 30 L (.int y :: .int x :: st) h Q = (if x < y then Go d 32 33 L st h Q else Go d 32 82 L st h Q) := go_icge rfl
theorem s_32_33 : Go d 32 33 [o0, o1, o2, some (.int x), o4, o5, o6] (st) h Q = Go d 32 34 [o0, o1, o2, some (.int x), o4, o5, o6] (.int x :: st) h Q := go_lo (E := (.iload_n 3, 0, 0, 0)) rfl rfl rfl
theorem s_32_34 : Go d 32 34 L (.int x :: st) h Q = (if x = 0 then Go d 32 82 L st h Q else Go d 32 37 L st h Q) := go_ifeq rfl
theorem s_32_37 : Go d 32 37 [some (.ref r), o1, o2, o3, o4, o5, o6] (st) h Q = Go d 32 38 [some (.ref r), o1, o2, o3, o4, o5, o6] (.ref r :: st) h Q := go_lo (E := (.aload_n 0, 0, 0, 0)) rfl rfl rfl
theorem s_32_38 : Go d 32 38 L (.ref 1 :: st) (HP lx xs M) Q = Go d 32 41 L (.ref 2 :: st) (HP lx xs M) Q := go_gf rfl rfl (by decide) rfl
theorem s_32_41 : Go d 32 41 [o0, o1, o2, some (.int x), o4, o5, o6] (st) h Q = Go d 32 42 [o0, o1, o2, some (.int x), o4, o5, o6] (.int x :: st) h Q := go_lo (E := (.iload_n 3, 0, 0, 0)) rfl rfl rfl
theorem s_32_42 {a1 : Int32} : Go (d + 1) 32 42 L [.int a1, .ref 2] (HP lx xs M) Q = Go d 73 0 [some (.ref 2), some (.int a1), none] [] (HP lx xs M) (fun v h2 => Go (d + 1) 32 45 L (ap v []) h2 Q) := go_cx (E := (.invokevirtual 177, 73, 0, 3)) (k' := 73) (as := [.ref 2, .int a1]) rfl rfl rfl rfl rfl rfl rfl rfl
theorem s_32_45 : Go d 32 45 [o0, o1, o2, o3, o4, o5, o6] (.int x :: st) h Q = Go d 32 47 [o0, o1, o2, o3, o4, o5, some (.int x)] (st) h Q := go_lo (E := (.istore 6, 0, 0, 0)) rfl rfl rfl
theorem s_32_47 : Go d 32 47 [o0, o1, o2, o3, o4, o5, some (.int x)] (st) h Q = Go d 32 49 [o0, o1, o2, o3, o4, o5, some (.int x)] (.int x :: st) h Q := go_lo (E := (.iload 6, 0, 0, 0)) rfl rfl rfl
theorem s_32_49 : Go d 32 49 L (st) h Q = Go d 32 51 L (.int (-4) :: st) h Q := go_bi rfl ci_bm4
theorem s_32_51 : Go d 32 51 L (.int y :: .int x :: st) h Q = (if x = y then Go d 32 54 L st h Q else Go d 32 57 L st h Q) := go_icne rfl
theorem s_32_54 : Go d 32 54 L (st) h Q = Go d 32 56 L (.int (-4) :: st) h Q := go_bi rfl ci_bm4
theorem s_32_56 : Go d 32 56 L [.int x] h Q = Q (some (.int x)) h := go_ri rfl rfl
theorem s_32_57 : Go d 32 57 [o0, o1, o2, o3, o4, some (.int x), o6] (st) h Q = Go d 32 59 [o0, o1, o2, o3, o4, some (.int x), o6] (.int x :: st) h Q := go_lo (E := (.iload 5, 0, 0, 0)) rfl rfl rfl
theorem s_32_59 : Go d 32 59 [o0, o1, some (.int x), o3, o4, o5, o6] (st) h Q = Go d 32 60 [o0, o1, some (.int x), o3, o4, o5, o6] (.int x :: st) h Q := go_lo (E := (.iload_n 2, 0, 0, 0)) rfl rfl rfl
theorem s_32_60 : Go d 32 60 L (.int y :: .int x :: st) h Q = (if x = y then Go d 32 63 L st h Q else Go d 32 67 L st h Q) := go_icne rfl
theorem s_32_63 : Go d 32 63 [o0, o1, o2, o3, o4, o5, some (.int x)] (st) h Q = Go d 32 65 [o0, o1, o2, o3, o4, o5, some (.int x)] (.int x :: st) h Q := go_lo (E := (.iload 6, 0, 0, 0)) rfl rfl rfl
theorem s_32_65 : Go d 32 65 [o0, o1, o2, o3, o4, o5, o6] (.int x :: st) h Q = Go d 32 67 [o0, o1, o2, o3, some (.int x), o5, o6] (st) h Q := go_lo (E := (.istore 4, 0, 0, 0)) rfl rfl rfl
theorem s_32_67 : Go d 32 67 [o0, o1, o2, some (.int x), o4, o5, o6] (st) h Q = Go d 32 68 [o0, o1, o2, some (.int x), o4, o5, o6] (.int x :: st) h Q := go_lo (E := (.iload_n 3, 0, 0, 0)) rfl rfl rfl
theorem s_32_68 : Go d 32 68 L (st) h Q = Go d 32 69 L (.int (nI 1) :: st) h Q := go_ic rfl ci_i1
theorem s_32_69 : Go d 32 69 [o0, o1, o2, o3, o4, o5, some (.int x)] (st) h Q = Go d 32 71 [o0, o1, o2, o3, o4, o5, some (.int x)] (.int x :: st) h Q := go_lo (E := (.iload 6, 0, 0, 0)) rfl rfl rfl
theorem s_32_71 : Go d 32 71 L (.int y :: .int x :: st) h Q = Go d 32 72 L (.int (x <<< (y &&& 31)) :: st) h Q := go_op (E := (.ishl, 0, 0, 0)) rfl rfl
theorem s_32_72 : Go d 32 72 L (st) h Q = Go d 32 73 L (.int (-1) :: st) h Q := go_ic rfl ci_im1
theorem s_32_73 : Go d 32 73 L (.int y :: .int x :: st) h Q = Go d 32 74 L (.int (x ^^^ y) :: st) h Q := go_op (E := (.ixor, 0, 0, 0)) rfl rfl
theorem s_32_74 : Go d 32 74 L (.int y :: .int x :: st) h Q = Go d 32 75 L (.int (x &&& y) :: st) h Q := go_op (E := (.iand, 0, 0, 0)) rfl rfl
theorem s_32_75 : Go d 32 75 [o0, o1, o2, o3, o4, o5, o6] (.int x :: st) h Q = Go d 32 76 [o0, o1, o2, some (.int x), o4, o5, o6] (st) h Q := go_lo (E := (.istore_n 3, 0, 0, 0)) rfl rfl rfl
theorem s_32_76 : Go d 32 76 [o0, o1, o2, o3, o4, some (.int x), o6] (st) h Q = Go d 32 79 [o0, o1, o2, o3, o4, some (.int (x + nI 1)), o6] (st) h Q := (ci_i1 ▸ go_lo (E := (.iinc 5 1, 0, 0, 0)) rfl rfl rfl : _ = Go d 32 79 [o0, o1, o2, o3, o4, some (.int (x + nI 1)), o6] (st) h Q)
theorem s_32_79 : Go d 32 79 L (st) h Q = Go d 32 27 L (st) h Q := go_goto rfl
theorem s_32_82 : Go d 32 82 [o0, o1, o2, o3, some (.int x), o5, o6] (st) h Q = Go d 32 84 [o0, o1, o2, o3, some (.int x), o5, o6] (.int x :: st) h Q := go_lo (E := (.iload 4, 0, 0, 0)) rfl rfl rfl
theorem s_32_84 : Go d 32 84 L [.int x] h Q = Q (some (.int x)) h := go_ri rfl rfl
theorem s_33_0 : Go d 33 0 [o0, some (.int x), o2] (st) h Q = Go d 33 1 [o0, some (.int x), o2] (.int x :: st) h Q := go_lo (E := (.iload_n 1, 0, 0, 0)) rfl rfl rfl
theorem s_33_1 {a0 : Int32} : Go (d + 1) 33 1 L [.int a0] h Q = Go d 45 0 [some (.int a0)] [] h (fun v h2 => Go (d + 1) 33 4 L (ap v []) h2 Q) := go_cx (E := (.invokestatic 55, 45, 0, 0)) (k' := 45) (as := [.int a0]) rfl rfl rfl rfl rfl rfl rfl rfl
theorem s_33_4 : Go d 33 4 L (.int x :: st) h Q = (if x = 0 then Go d 33 16 L st h Q else Go d 33 7 L st h Q) := go_ifeq rfl
theorem s_33_7 : Go d 33 7 [o0, o1, some (.int x)] (st) h Q = Go d 33 8 [o0, o1, some (.int x)] (.int x :: st) h Q := go_lo (E := (.iload_n 2, 0, 0, 0)) rfl rfl rfl
theorem s_33_8 : Go d 33 8 L (.int x :: st) h Q = (if x < 0 then Go d 33 16 L st h Q else Go d 33 11 L st h Q) := go_iflt rfl
theorem s_33_11 : Go d 33 11 [o0, o1, some (.int x)] (st) h Q = Go d 33 12 [o0, o1, some (.int x)] (.int x :: st) h Q := go_lo (E := (.iload_n 2, 0, 0, 0)) rfl rfl rfl
theorem s_33_12 : Go d 33 12 L (st) h Q = Go d 33 13 L (.int (nI 1) :: st) h Q := go_ic rfl ci_i1
theorem s_33_13 : Go d 33 13 L (.int y :: .int x :: st) h Q = (if y < x then Go d 33 16 L st h Q else Go d 33 18 L st h Q) := go_icle rfl
theorem s_33_16 : Go d 33 16 L (st) h Q = Go d 33 17 L (.int (-1) :: st) h Q := go_ic rfl ci_im1
theorem s_33_17 : Go d 33 17 L [.int x] h Q = Q (some (.int x)) h := go_ri rfl rfl
theorem s_33_18 : Go d 33 18 [some (.ref r), o1, o2] (st) h Q = Go d 33 19 [some (.ref r), o1, o2] (.ref r :: st) h Q := go_lo (E := (.aload_n 0, 0, 0, 0)) rfl rfl rfl
theorem s_33_19 : Go d 33 19 L (.ref 1 :: st) (HP lx xs M) Q = Go d 33 22 L (.ref 42 :: st) (HP lx xs M) Q := go_gf rfl rfl (by decide) rfl
theorem s_33_22 : Go d 33 22 [some (.ref r), o1, o2] (st) h Q = Go d 33 23 [some (.ref r), o1, o2] (.ref r :: st) h Q := go_lo (E := (.aload_n 0, 0, 0, 0)) rfl rfl rfl
theorem s_33_23 : Go d 33 23 L (.ref 1 :: st) (HP lx xs M) Q = Go d 33 26 L (.ref 2 :: st) (HP lx xs M) Q := go_gf rfl rfl (by decide) rfl
theorem s_33_26 : Go d 33 26 [o0, some (.int x), o2] (st) h Q = Go d 33 27 [o0, some (.int x), o2] (.int x :: st) h Q := go_lo (E := (.iload_n 1, 0, 0, 0)) rfl rfl rfl
theorem s_33_27 {a2 : Int32} {ar1 : Nat} : Go (d + 1) 33 27 L [.int a2, .ref ar1, .ref 42] (HP lx xs M) Q = Go d 106 0 [some (.ref 42), some (.ref ar1), some (.int a2), none, none, none] [] (HP lx xs M) (fun v h2 => Go (d + 1) 33 30 L (ap v []) h2 Q) := go_cx (E := (.invokevirtual 180, 106, 0, 2)) (k' := 106) (as := [.ref 42, .ref ar1, .int a2]) rfl rfl rfl rfl rfl rfl rfl rfl
theorem s_33_30 : Go d 33 30 [o0, o1, some (.int x)] (st) h Q = Go d 33 31 [o0, o1, some (.int x)] (.int x :: st) h Q := go_lo (E := (.iload_n 2, 0, 0, 0)) rfl rfl rfl
theorem s_33_31 : Go d 33 31 L (.int x :: st) h Q = (if x = 0 then Go d 33 34 L st h Q else Go d 33 44 L st h Q) := go_ifne rfl
theorem s_33_34 : Go d 33 34 [some (.ref r), o1, o2] (st) h Q = Go d 33 35 [some (.ref r), o1, o2] (.ref r :: st) h Q := go_lo (E := (.aload_n 0, 0, 0, 0)) rfl rfl rfl
theorem s_33_35 : Go d 33 35 L (.ref 1 :: st) (HP lx xs M) Q = Go d 33 38 L (.ref 42 :: st) (HP lx xs M) Q := go_gf rfl rfl (by decide) rfl
theorem s_33_38  : Go (d + 1) 33 38 L [.ref 42] (HP lx xs M) Q = Go d 107 0 [some (.ref 42), none, none] [] (HP lx xs M) (fun v h2 => Go (d + 1) 33 41 L (ap v []) h2 Q) := go_cx (E := (.invokevirtual 184, 107, 0, 2)) (k' := 107) (as := [.ref 42]) rfl rfl rfl rfl rfl rfl rfl rfl
theorem s_33_41 : Go d 33 41 L (st) h Q = Go d 33 51 L (st) h Q := go_goto rfl
theorem s_33_44 : Go d 33 44 [some (.ref r), o1, o2] (st) h Q = Go d 33 45 [some (.ref r), o1, o2] (.ref r :: st) h Q := go_lo (E := (.aload_n 0, 0, 0, 0)) rfl rfl rfl
theorem s_33_45 : Go d 33 45 L (.ref 1 :: st) (HP lx xs M) Q = Go d 33 48 L (.ref 42 :: st) (HP lx xs M) Q := go_gf rfl rfl (by decide) rfl
theorem s_33_48  : Go (d + 1) 33 48 L [.ref 42] (HP lx xs M) Q = Go d 109 0 [some (.ref 42), none, none] [] (HP lx xs M) (fun v h2 => Go (d + 1) 33 51 L (ap v []) h2 Q) := go_cx (E := (.invokevirtual 187, 109, 0, 2)) (k' := 109) (as := [.ref 42]) rfl rfl rfl rfl rfl rfl rfl rfl
theorem s_33_51 : Go d 33 51 L [.int x] h Q = Q (some (.int x)) h := go_ri rfl rfl
theorem s_34_0 : Go d 34 0 [o0, some (.int x), o2] (st) h Q = Go d 34 1 [o0, some (.int x), o2] (.int x :: st) h Q := go_lo (E := (.iload_n 1, 0, 0, 0)) rfl rfl rfl
theorem s_34_1 {a0 : Int32} : Go (d + 1) 34 1 L [.int a0] h Q = Go d 45 0 [some (.int a0)] [] h (fun v h2 => Go (d + 1) 34 4 L (ap v []) h2 Q) := go_cx (E := (.invokestatic 55, 45, 0, 0)) (k' := 45) (as := [.int a0]) rfl rfl rfl rfl rfl rfl rfl rfl
theorem s_34_4 : Go d 34 4 L (.int x :: st) h Q = (if x = 0 then Go d 34 34 L st h Q else Go d 34 7 L st h Q) := go_ifeq rfl
theorem s_34_7 : Go d 34 7 [some (.ref r), o1, o2] (st) h Q = Go d 34 8 [some (.ref r), o1, o2] (.ref r :: st) h Q := go_lo (E := (.aload_n 0, 0, 0, 0)) rfl rfl rfl
theorem s_34_8 : Go d 34 8 L (.ref 1 :: st) (HP lx xs M) Q = Go d 34 11 L (.ref 2 :: st) (HP lx xs M) Q := go_gf rfl rfl (by decide) rfl
theorem s_34_11 : Go d 34 11 [o0, o1, some (.int x)] (st) h Q = Go d 34 12 [o0, o1, some (.int x)] (.int x :: st) h Q := go_lo (E := (.iload_n 2, 0, 0, 0)) rfl rfl rfl
theorem s_34_12 {a1 : Int32} : Go (d + 1) 34 12 L [.int a1, .ref 2] (HP lx xs M) Q = Go d 57 0 [some (.ref 2), some (.int a1)] [] (HP lx xs M) (fun v h2 => Go (d + 1) 34 15 L (ap v []) h2 Q) := go_cx (E := (.invokevirtual 51, 57, 0, 3)) (k' := 57) (as := [.ref 2, .int a1]) rfl rfl rfl rfl rfl rfl rfl rfl
theorem s_34_15 : Go d 34 15 L (.int x :: st) h Q = (if x = 0 then Go d 34 34 L st h Q else Go d 34 18 L st h Q) := go_ifeq rfl
theorem s_34_18 : Go d 34 18 [some (.ref r), o1, o2] (st) h Q = Go d 34 19 [some (.ref r), o1, o2] (.ref r :: st) h Q := go_lo (E := (.aload_n 0, 0, 0, 0)) rfl rfl rfl
theorem s_34_19 : Go d 34 19 L (.ref 1 :: st) (HP lx xs M) Q = Go d 34 22 L (.ref 2 :: st) (HP lx xs M) Q := go_gf rfl rfl (by decide) rfl
theorem s_34_22 : Go d 34 22 L (.ref 2 :: st) (HP lx xs M) Q = Go d 34 25 L (.ref 5 :: st) (HP lx xs M) Q := go_gf rfl rfl (by decide) rfl
theorem s_34_25 : Go d 34 25 [o0, o1, some (.int x)] (st) h Q = Go d 34 26 [o0, o1, some (.int x)] (.int x :: st) h Q := go_lo (E := (.iload_n 2, 0, 0, 0)) rfl rfl rfl
theorem s_34_26 : Go d 34 26 L (.int x :: .ref 5 :: st) (HP lx xs M) Q = (ex_in x 6 = true ∧ Go d 34 27 L (.int (M 5 x.toNatClampNeg) :: st) (HP lx xs M) Q) := go_al rfl rfl
theorem s_34_27 : Go d 34 27 [o0, some (.int x), o2] (st) h Q = Go d 34 28 [o0, some (.int x), o2] (.int x :: st) h Q := go_lo (E := (.iload_n 1, 0, 0, 0)) rfl rfl rfl
theorem s_34_28 {a0 : Int32} {a1 : Int32} : Go (d + 1) 34 28 L [.int a1, .int a0] h Q = Go d 49 0 [some (.int a0), some (.int a1)] [] h (fun v h2 => Go (d + 1) 34 31 L (ap v []) h2 Q) := go_cx (E := (.invokestatic 69, 49, 0, 0)) (k' := 49) (as := [.int a0, .int a1]) rfl rfl rfl rfl rfl rfl rfl rfl
theorem s_34_31 : Go d 34 31 L (.int x :: st) h Q = (if x = 0 then Go d 34 34 L st h Q else Go d 34 36 L st h Q) := go_ifne rfl
theorem s_34_34 : Go d 34 34 L (st) h Q = Go d 34 35 L (.int (-1) :: st) h Q := go_ic rfl ci_im1
theorem s_34_35 : Go d 34 35 L [.int x] h Q = Q (some (.int x)) h := go_ri rfl rfl
theorem s_34_36 : Go d 34 36 [some (.ref r), o1, o2] (st) h Q = Go d 34 37 [some (.ref r), o1, o2] (.ref r :: st) h Q := go_lo (E := (.aload_n 0, 0, 0, 0)) rfl rfl rfl
theorem s_34_37 : Go d 34 37 L (.ref 1 :: st) (HP lx xs M) Q = Go d 34 40 L (.ref 42 :: st) (HP lx xs M) Q := go_gf rfl rfl (by decide) rfl
theorem s_34_40 : Go d 34 40 [some (.ref r), o1, o2] (st) h Q = Go d 34 41 [some (.ref r), o1, o2] (.ref r :: st) h Q := go_lo (E := (.aload_n 0, 0, 0, 0)) rfl rfl rfl
theorem s_34_41 : Go d 34 41 L (.ref 1 :: st) (HP lx xs M) Q = Go d 34 44 L (.ref 2 :: st) (HP lx xs M) Q := go_gf rfl rfl (by decide) rfl
theorem s_34_44 : Go d 34 44 [o0, some (.int x), o2] (st) h Q = Go d 34 45 [o0, some (.int x), o2] (.int x :: st) h Q := go_lo (E := (.iload_n 1, 0, 0, 0)) rfl rfl rfl
theorem s_34_45 {a2 : Int32} {ar1 : Nat} : Go (d + 1) 34 45 L [.int a2, .ref ar1, .ref 42] (HP lx xs M) Q = Go d 106 0 [some (.ref 42), some (.ref ar1), some (.int a2), none, none, none] [] (HP lx xs M) (fun v h2 => Go (d + 1) 34 48 L (ap v []) h2 Q) := go_cx (E := (.invokevirtual 180, 106, 0, 2)) (k' := 106) (as := [.ref 42, .ref ar1, .int a2]) rfl rfl rfl rfl rfl rfl rfl rfl
theorem s_34_48 : Go d 34 48 [some (.ref r), o1, o2] (st) h Q = Go d 34 49 [some (.ref r), o1, o2] (.ref r :: st) h Q := go_lo (E := (.aload_n 0, 0, 0, 0)) rfl rfl rfl
theorem s_34_49 : Go d 34 49 L (.ref 1 :: st) (HP lx xs M) Q = Go d 34 52 L (.ref 42 :: st) (HP lx xs M) Q := go_gf rfl rfl (by decide) rfl
theorem s_34_52 : Go d 34 52 [o0, o1, some (.int x)] (st) h Q = Go d 34 53 [o0, o1, some (.int x)] (.int x :: st) h Q := go_lo (E := (.iload_n 2, 0, 0, 0)) rfl rfl rfl
theorem s_34_53 {a1 : Int32} : Go (d + 1) 34 53 L [.int a1, .ref 42] (HP lx xs M) Q = Go d 111 0 [some (.ref 42), some (.int a1), none, none] [] (HP lx xs M) (fun v h2 => Go (d + 1) 34 56 L (ap v []) h2 Q) := go_cx (E := (.invokevirtual 190, 111, 0, 2)) (k' := 111) (as := [.ref 42, .int a1]) rfl rfl rfl rfl rfl rfl rfl rfl
theorem s_34_56 : Go d 34 56 L [.int x] h Q = Q (some (.int x)) h := go_ri rfl rfl
theorem s_35_0 : Go d 35 0 [o0, some (.int x), o2] (st) h Q = Go d 35 1 [o0, some (.int x), o2] (.int x :: st) h Q := go_lo (E := (.iload_n 1, 0, 0, 0)) rfl rfl rfl
theorem s_35_1 : Go d 35 1 L (st) h Q = Go d 35 2 L (.int (nI 1) :: st) h Q := go_ic rfl ci_i1
theorem s_35_2 : Go d 35 2 L (.int y :: .int x :: st) h Q = (if x < y then Go d 35 11 L st h Q else Go d 35 5 L st h Q) := go_iclt rfl
theorem s_35_5 : Go d 35 5 [o0, some (.int x), o2] (st) h Q = Go d 35 6 [o0, some (.int x), o2] (.int x :: st) h Q := go_lo (E := (.iload_n 1, 0, 0, 0)) rfl rfl rfl
theorem s_35_6 : Go d 35 6 L (st) h Q = Go d 35 8 L (.int (nI 60) :: st) h Q := go_bi rfl ci_b60
theorem s_35_8 : Go d 35 8 L (.int y :: .int x :: st) h Q = (if y < x then Go d 35 11 L st h Q else Go d 35 13 L st h Q) := go_icle rfl
theorem s_35_11 : Go d 35 11 L (st) h Q = Go d 35 12 L (.int (-1) :: st) h Q := go_ic rfl ci_im1
theorem s_35_12 : Go d 35 12 L [.int x] h Q = Q (some (.int x)) h := go_ri rfl rfl
theorem s_35_13 : Go d 35 13 L (st) h Q = Go d 35 14 L (.int (nI 0) :: st) h Q := go_ic rfl ci_i0
theorem s_35_14 : Go d 35 14 [o0, o1, o2] (.int x :: st) h Q = Go d 35 15 [o0, o1, some (.int x)] (st) h Q := go_lo (E := (.istore_n 2, 0, 0, 0)) rfl rfl rfl
theorem s_35_15 : Go d 35 15 [o0, o1, some (.int x)] (st) h Q = Go d 35 16 [o0, o1, some (.int x)] (.int x :: st) h Q := go_lo (E := (.iload_n 2, 0, 0, 0)) rfl rfl rfl
theorem s_35_16 : Go d 35 16 [o0, some (.int x), o2] (st) h Q = Go d 35 17 [o0, some (.int x), o2] (.int x :: st) h Q := go_lo (E := (.iload_n 1, 0, 0, 0)) rfl rfl rfl
theorem s_35_17 : Go d 35 17 L (.int y :: .int x :: st) h Q = (if x < y then Go d 35 20 L st h Q else Go d 35 36 L st h Q) := go_icge rfl
theorem s_35_20 : Go d 35 20 [some (.ref r), o1, o2] (st) h Q = Go d 35 21 [some (.ref r), o1, o2] (.ref r :: st) h Q := go_lo (E := (.aload_n 0, 0, 0, 0)) rfl rfl rfl
theorem s_35_21 : Go d 35 21 L (.ref 1 :: st) (HP lx xs M) Q = Go d 35 24 L (.ref 2 :: st) (HP lx xs M) Q := go_gf rfl rfl (by decide) rfl
theorem s_35_24  : Go (d + 1) 35 24 L [.ref 2] (HP lx xs M) Q = Go d 74 0 [some (.ref 2), none] [] (HP lx xs M) (fun v h2 => Go (d + 1) 35 27 L (ap v []) h2 Q) := go_cx (E := (.invokevirtual 193, 74, 0, 3)) (k' := 74) (as := [.ref 2]) rfl rfl rfl rfl rfl rfl rfl rfl
theorem s_35_27 : Go d 35 27 L (.int x :: st) h Q = (if x = 0 then Go d 35 36 L st h Q else Go d 35 30 L st h Q) := go_ifeq rfl
theorem s_35_30 : Go d 35 30 [o0, o1, some (.int x)] (st) h Q = Go d 35 33 [o0, o1, some (.int (x + nI 1))] (st) h Q := (ci_i1 ▸ go_lo (E := (.iinc 2 1, 0, 0, 0)) rfl rfl rfl : _ = Go d 35 33 [o0, o1, some (.int (x + nI 1))] (st) h Q)
theorem s_35_33 : Go d 35 33 L (st) h Q = Go d 35 15 L (st) h Q := go_goto rfl
theorem s_35_36 : Go d 35 36 [o0, o1, some (.int x)] (st) h Q = Go d 35 37 [o0, o1, some (.int x)] (.int x :: st) h Q := go_lo (E := (.iload_n 2, 0, 0, 0)) rfl rfl rfl
theorem s_35_37 : Go d 35 37 L [.int x] h Q = Q (some (.int x)) h := go_ri rfl rfl
theorem s_36_0 : Go d 36 0 [o0, some (.int x), o2] (st) h Q = Go d 36 1 [o0, some (.int x), o2] (.int x :: st) h Q := go_lo (E := (.iload_n 1, 0, 0, 0)) rfl rfl rfl
theorem s_36_1 : Go d 36 1 L (.int x :: st) h Q = (if x < 0 then Go d 36 4 L st h Q else Go d 36 6 L st h Q) := go_ifge rfl
theorem s_36_4 : Go d 36 4 L (st) h Q = Go d 36 5 L (.int (-1) :: st) h Q := go_ic rfl ci_im1
theorem s_36_5 : Go d 36 5 L [.int x] h Q = Q (some (.int x)) h := go_ri rfl rfl
theorem s_36_6 : Go d 36 6 [some (.ref r), o1, o2] (st) h Q = Go d 36 7 [some (.ref r), o1, o2] (.ref r :: st) h Q := go_lo (E := (.aload_n 0, 0, 0, 0)) rfl rfl rfl
theorem s_36_7 : Go d 36 7 L (.ref 1 :: st) (HP lx xs M) Q = Go d 36 10 L (.ref 2 :: st) (HP lx xs M) Q := go_gf rfl rfl (by decide) rfl
theorem s_36_10 : Go d 36 10 L (.ref 2 :: st) (HP lx xs M) Q = Go d 36 13 L (.int (M 2 2) :: st) (HP lx xs M) Q := go_gf rfl rfl (by decide) rfl
theorem s_36_13 : Go d 36 13 [o0, o1, o2] (.int x :: st) h Q = Go d 36 14 [o0, o1, some (.int x)] (st) h Q := go_lo (E := (.istore_n 2, 0, 0, 0)) rfl rfl rfl
theorem s_36_14 : Go d 36 14 [some (.ref r), o1, o2] (st) h Q = Go d 36 15 [some (.ref r), o1, o2] (.ref r :: st) h Q := go_lo (E := (.aload_n 0, 0, 0, 0)) rfl rfl rfl
theorem s_36_15 : Go d 36 15 L (.ref 1 :: st) (HP lx xs M) Q = Go d 36 18 L (.ref 2 :: st) (HP lx xs M) Q := go_gf rfl rfl (by decide) rfl
theorem s_36_18 : Go d 36 18 [o0, some (.int x), o2] (st) h Q = Go d 36 19 [o0, some (.int x), o2] (.int x :: st) h Q := go_lo (E := (.iload_n 1, 0, 0, 0)) rfl rfl rfl
theorem s_36_19 : Go d 36 19 L (.int x :: .ref 2 :: st) (HP lx xs M) Q = Go d 36 22 L (st) (HP lx xs (up M 2 2 x)) Q := go_pf rfl rfl (by decide) (Nat.le_of_ble_eq_true rfl) rfl hf_2_2
theorem s_36_22 : Go d 36 22 [o0, o1, some (.int x)] (st) h Q = Go d 36 23 [o0, o1, some (.int x)] (.int x :: st) h Q := go_lo (E := (.iload_n 2, 0, 0, 0)) rfl rfl rfl
theorem s_36_23 : Go d 36 23 L [.int x] h Q = Q (some (.int x)) h := go_ri rfl rfl
theorem s_37_0 : Go d 37 0 [some (.ref r)] (st) h Q = Go d 37 1 [some (.ref r)] (.ref r :: st) h Q := go_lo (E := (.aload_n 0, 0, 0, 0)) rfl rfl rfl
theorem s_37_1 : Go d 37 1 L (.ref 1 :: st) (HP lx xs M) Q = Go d 37 4 L (.ref 15 :: st) (HP lx xs M) Q := go_gf rfl rfl (by decide) rfl
theorem s_37_4 : Go d 37 4 [some (.ref r)] (st) h Q = Go d 37 5 [some (.ref r)] (.ref r :: st) h Q := go_lo (E := (.aload_n 0, 0, 0, 0)) rfl rfl rfl
theorem s_37_5 : Go d 37 5 L (.ref 1 :: st) (HP lx xs M) Q = Go d 37 8 L (.ref 2 :: st) (HP lx xs M) Q := go_gf rfl rfl (by decide) rfl
theorem s_37_8 {ar1 : Nat} : Go (d + 1) 37 8 L [.ref ar1, .ref 15] (HP lx xs M) Q = Go d 64 0 [some (.ref 15), some (.ref ar1)] [] (HP lx xs M) (fun v h2 => Go (d + 1) 37 11 L (ap v []) h2 Q) := go_cx (E := (.invokevirtual 200, 64, 0, 3)) (k' := 64) (as := [.ref 15, .ref ar1]) rfl rfl rfl rfl rfl rfl rfl rfl
theorem s_37_11 : Go d 37 11 [some (.ref r)] (st) h Q = Go d 37 12 [some (.ref r)] (.ref r :: st) h Q := go_lo (E := (.aload_n 0, 0, 0, 0)) rfl rfl rfl
theorem s_37_12 : Go d 37 12 L (st) h Q = Go d 37 13 L (.int (nI 1) :: st) h Q := go_ic rfl ci_i1
theorem s_37_13 : Go d 37 13 L (.int (nI 1) :: .ref 1 :: st) (HP lx xs M) Q = Go d 37 16 L (st) (HP lx xs (up M 1 6 (nI 1))) Q := go_pf rfl rfl (by decide) (Nat.le_of_ble_eq_true rfl) (by decide +kernel) hf_1_6
theorem s_37_16 : Go d 37 16 L (st) h Q = Go d 37 17 L (.int (nI 1) :: st) h Q := go_ic rfl ci_i1
theorem s_37_17 : Go d 37 17 L [.int x] h Q = Q (some (.int x)) h := go_ri rfl rfl
theorem s_38_0 : Go d 38 0 [some (.ref r)] (st) h Q = Go d 38 1 [some (.ref r)] (.ref r :: st) h Q := go_lo (E := (.aload_n 0, 0, 0, 0)) rfl rfl rfl
theorem s_38_1 : Go d 38 1 L (.ref 1 :: st) (HP lx xs M) Q = Go d 38 4 L (.int (M 1 6) :: st) (HP lx xs M) Q := go_gf rfl rfl (by decide) rfl
theorem s_38_4 : Go d 38 4 L (.int x :: st) h Q = (if x = 0 then Go d 38 7 L st h Q else Go d 38 10 L st h Q) := go_ifne rfl
theorem s_38_7 : Go d 38 7 L (st) h Q = Go d 38 9 L (.int (-4) :: st) h Q := go_bi rfl ci_bm4
theorem s_38_9 : Go d 38 9 L [.int x] h Q = Q (some (.int x)) h := go_ri rfl rfl
theorem s_38_10 : Go d 38 10 [some (.ref r)] (st) h Q = Go d 38 11 [some (.ref r)] (.ref r :: st) h Q := go_lo (E := (.aload_n 0, 0, 0, 0)) rfl rfl rfl
theorem s_38_11 : Go d 38 11 L (.ref 1 :: st) (HP lx xs M) Q = Go d 38 14 L (.ref 2 :: st) (HP lx xs M) Q := go_gf rfl rfl (by decide) rfl
theorem s_38_14 : Go d 38 14 [some (.ref r)] (st) h Q = Go d 38 15 [some (.ref r)] (.ref r :: st) h Q := go_lo (E := (.aload_n 0, 0, 0, 0)) rfl rfl rfl
theorem s_38_15 : Go d 38 15 L (.ref 1 :: st) (HP lx xs M) Q = Go d 38 18 L (.ref 15 :: st) (HP lx xs M) Q := go_gf rfl rfl (by decide) rfl
theorem s_38_18 {ar1 : Nat} : Go (d + 1) 38 18 L [.ref ar1, .ref 2] (HP lx xs M) Q = Go d 64 0 [some (.ref 2), some (.ref ar1)] [] (HP lx xs M) (fun v h2 => Go (d + 1) 38 21 L (ap v []) h2 Q) := go_cx (E := (.invokevirtual 200, 64, 0, 3)) (k' := 64) (as := [.ref 2, .ref ar1]) rfl rfl rfl rfl rfl rfl rfl rfl
theorem s_38_21 : Go d 38 21 L (st) h Q = Go d 38 22 L (.int (nI 1) :: st) h Q := go_ic rfl ci_i1
theorem s_38_22 : Go d 38 22 L [.int x] h Q = Q (some (.int x)) h := go_ri rfl rfl
theorem s_39_0 : Go d 39 0 [o0, some (.int x), o2, o3, o4, o5, o6] (st) h Q = Go d 39 1 [o0, some (.int x), o2, o3, o4, o5, o6] (.int x :: st) h Q := go_lo (E := (.iload_n 1, 0, 0, 0)) rfl rfl rfl
theorem s_39_1 {a0 : Int32} : Go (d + 1) 39 1 L [.int a0] h Q = Go d 47 0 [some (.int a0)] [] h (fun v h2 => Go (d + 1) 39 4 L (ap v []) h2 Q) := go_cx (E := (.invokestatic 207, 47, 0, 0)) (k' := 47) (as := [.int a0]) rfl rfl rfl rfl rfl rfl rfl rfl
theorem s_39_4 : Go d 39 4 L (.int x :: st) h Q = (if x = 0 then Go d 39 26 L st h Q else Go d 39 7 L st h Q) := go_ifeq rfl
theorem s_39_7 : Go d 39 7 [o0, o1, some (.int x), o3, o4, o5, o6] (st) h Q = Go d 39 8 [o0, o1, some (.int x), o3, o4, o5, o6] (.int x :: st) h Q := go_lo (E := (.iload_n 2, 0, 0, 0)) rfl rfl rfl
theorem s_39_8 {a0 : Int32} : Go (d + 1) 39 8 L [.int a0] h Q = Go d 48 0 [some (.int a0)] [] h (fun v h2 => Go (d + 1) 39 11 L (ap v []) h2 Q) := go_cx (E := (.invokestatic 210, 48, 0, 0)) (k' := 48) (as := [.int a0]) rfl rfl rfl rfl rfl rfl rfl rfl
theorem s_39_11 : Go d 39 11 L (.int x :: st) h Q = (if x = 0 then Go d 39 26 L st h Q else Go d 39 14 L st h Q) := go_ifeq rfl
theorem s_39_14 : Go d 39 14 [o0, o1, o2, o3, some (.int x), o5, o6] (st) h Q = Go d 39 16 [o0, o1, o2, o3, some (.int x), o5, o6] (.int x :: st) h Q := go_lo (E := (.iload 4, 0, 0, 0)) rfl rfl rfl
theorem s_39_16 : Go d 39 16 L (st) h Q = Go d 39 17 L (.int (nI 1) :: st) h Q := go_ic rfl ci_i1
theorem s_39_17 : Go d 39 17 L (.int y :: .int x :: st) h Q = (if x < y then Go d 39 26 L st h Q else Go d 39 20 L st h Q) := go_iclt rfl
theorem s_39_20 : Go d 39 20 [o0, o1, o2, o3, some (.int x), o5, o6] (st) h Q = Go d 39 22 [o0, o1, o2, o3, some (.int x), o5, o6] (.int x :: st) h Q := go_lo (E := (.iload 4, 0, 0, 0)) rfl rfl rfl
theorem s_39_22 : Go d 39 22 L (st) h Q = Go d 39 23 L (.int (nI 3) :: st) h Q := go_ic rfl ci_i3
theorem s_39_23 : Go d 39 23 L (.int y :: .int x :: st) h Q = (if y < x then Go d 39 26 L st h Q else Go d 39 28 L st h Q) := go_icle rfl
theorem s_39_26 : Go d 39 26 L (st) h Q = Go d 39 27 L (.int (-1) :: st) h Q := go_ic rfl ci_im1
theorem s_39_27 : Go d 39 27 L [.int x] h Q = Q (some (.int x)) h := go_ri rfl rfl
theorem s_39_28 : Go d 39 28 [some (.ref r), o1, o2, o3, o4, o5, o6] (st) h Q = Go d 39 29 [some (.ref r), o1, o2, o3, o4, o5, o6] (.ref r :: st) h Q := go_lo (E := (.aload_n 0, 0, 0, 0)) rfl rfl rfl
theorem s_39_29 : Go d 39 29 L (.ref 1 :: st) (HP lx xs M) Q = Go d 39 32 L (.ref 44 :: st) (HP lx xs M) Q := go_gf rfl rfl (by decide) rfl
theorem s_39_32 : Go d 39 32 [o0, some (.int x), o2, o3, o4, o5, o6] (st) h Q = Go d 39 33 [o0, some (.int x), o2, o3, o4, o5, o6] (.int x :: st) h Q := go_lo (E := (.iload_n 1, 0, 0, 0)) rfl rfl rfl
theorem s_39_33_0 : Go d 39 33 L (.int (nI 0) :: .ref 44 :: st) (HP lx xs M) Q = Go d 39 34 L (.ref 45 :: st) (HP lx xs M) Q := go_ql rfl rfl (by decide) (by decide +kernel) (by decide +kernel)
theorem s_39_33_1 : Go d 39 33 L (.int (nI 1) :: .ref 44 :: st) (HP lx xs M) Q = Go d 39 34 L (.ref 47 :: st) (HP lx xs M) Q := go_ql rfl rfl (by decide) (by decide +kernel) (by decide +kernel)
theorem s_39_33_2 : Go d 39 33 L (.int (nI 2) :: .ref 44 :: st) (HP lx xs M) Q = Go d 39 34 L (.ref 49 :: st) (HP lx xs M) Q := go_ql rfl rfl (by decide) (by decide +kernel) (by decide +kernel)
theorem s_39_33_3 : Go d 39 33 L (.int (nI 3) :: .ref 44 :: st) (HP lx xs M) Q = Go d 39 34 L (.ref 51 :: st) (HP lx xs M) Q := go_ql rfl rfl (by decide) (by decide +kernel) (by decide +kernel)
theorem s_39_34 : Go d 39 34 [o0, o1, o2, o3, o4, o5, o6] (.ref r :: st) h Q = Go d 39 36 [o0, o1, o2, o3, o4, some (.ref r), o6] (st) h Q := go_lo (E := (.astore 5, 0, 0, 0)) rfl rfl rfl
theorem s_39_36 : Go d 39 36 [o0, o1, o2, o3, o4, some (.ref r), o6] (st) h Q = Go d 39 38 [o0, o1, o2, o3, o4, some (.ref r), o6] (.ref r :: st) h Q := go_lo (E := (.aload 5, 0, 0, 0)) rfl rfl rfl
theorem s_39_38 : Go d 39 38 [o0, o1, some (.int x), o3, o4, o5, o6] (st) h Q = Go d 39 39 [o0, o1, some (.int x), o3, o4, o5, o6] (.int x :: st) h Q := go_lo (E := (.iload_n 2, 0, 0, 0)) rfl rfl rfl
theorem s_39_39 : Go d 39 39 [o0, o1, o2, some (.int x), o4, o5, o6] (st) h Q = Go d 39 40 [o0, o1, o2, some (.int x), o4, o5, o6] (.int x :: st) h Q := go_lo (E := (.iload_n 3, 0, 0, 0)) rfl rfl rfl
theorem s_39_40 : Go d 39 40 L (st) h Q = Go d 39 41 L (.int (nI 3) :: st) h Q := go_ic rfl ci_i3
theorem s_39_41 : Go d 39 41 [o0, o1, o2, o3, some (.int x), o5, o6] (st) h Q = Go d 39 43 [o0, o1, o2, o3, some (.int x), o5, o6] (.int x :: st) h Q := go_lo (E := (.iload 4, 0, 0, 0)) rfl rfl rfl
theorem s_39_43 : Go d 39 43 L (.int y :: .int x :: st) h Q = Go d 39 44 L (.int (x * y) :: st) h Q := go_op (E := (.imul, 0, 0, 0)) rfl rfl
theorem s_39_44_45 {a1 : Int32} {a2 : Int32} {a3 : Int32} : Go (d + 1) 39 44 L [.int a3, .int a2, .int a1, .ref 45] (HP lx xs M) Q = Go d 3 0 [some (.ref 45), some (.int a1), some (.int a2), some (.int a3)] [] (HP lx xs M) (fun v h2 => Go (d + 1) 39 47 L (ap v []) h2 Q) := go_cx (E := (.invokevirtual 213, 3, 0, 5)) (k' := 3) (as := [.ref 45, .int a1, .int a2, .int a3]) rfl rfl rfl rfl rfl rfl rfl rfl
theorem s_39_44_47 {a1 : Int32} {a2 : Int32} {a3 : Int32} : Go (d + 1) 39 44 L [.int a3, .int a2, .int a1, .ref 47] (HP lx xs M) Q = Go d 3 0 [some (.ref 47), some (.int a1), some (.int a2), some (.int a3)] [] (HP lx xs M) (fun v h2 => Go (d + 1) 39 47 L (ap v []) h2 Q) := go_cx (E := (.invokevirtual 213, 3, 0, 5)) (k' := 3) (as := [.ref 47, .int a1, .int a2, .int a3]) rfl rfl rfl rfl rfl rfl rfl rfl
theorem s_39_44_49 {a1 : Int32} {a2 : Int32} {a3 : Int32} : Go (d + 1) 39 44 L [.int a3, .int a2, .int a1, .ref 49] (HP lx xs M) Q = Go d 3 0 [some (.ref 49), some (.int a1), some (.int a2), some (.int a3)] [] (HP lx xs M) (fun v h2 => Go (d + 1) 39 47 L (ap v []) h2 Q) := go_cx (E := (.invokevirtual 213, 3, 0, 5)) (k' := 3) (as := [.ref 49, .int a1, .int a2, .int a3]) rfl rfl rfl rfl rfl rfl rfl rfl
theorem s_39_44_51 {a1 : Int32} {a2 : Int32} {a3 : Int32} : Go (d + 1) 39 44 L [.int a3, .int a2, .int a1, .ref 51] (HP lx xs M) Q = Go d 3 0 [some (.ref 51), some (.int a1), some (.int a2), some (.int a3)] [] (HP lx xs M) (fun v h2 => Go (d + 1) 39 47 L (ap v []) h2 Q) := go_cx (E := (.invokevirtual 213, 3, 0, 5)) (k' := 3) (as := [.ref 51, .int a1, .int a2, .int a3]) rfl rfl rfl rfl rfl rfl rfl rfl
theorem s_39_47 : Go d 39 47 [o0, o1, o2, o3, o4, o5, o6] (.int x :: st) h Q = Go d 39 49 [o0, o1, o2, o3, o4, o5, some (.int x)] (st) h Q := go_lo (E := (.istore 6, 0, 0, 0)) rfl rfl rfl
theorem s_39_49 : Go d 39 49 [o0, o1, o2, o3, o4, o5, some (.int x)] (st) h Q = Go d 39 51 [o0, o1, o2, o3, o4, o5, some (.int x)] (.int x :: st) h Q := go_lo (E := (.iload 6, 0, 0, 0)) rfl rfl rfl
theorem s_39_51 : Go d 39 51 L (.int x :: st) h Q = (if x = 0 then Go d 39 57 L st h Q else Go d 39 54 L st h Q) := go_ifeq rfl
theorem s_39_54 : Go d 39 54 [o0, o1, o2, o3, o4, o5, some (.int x)] (st) h Q = Go d 39 56 [o0, o1, o2, o3, o4, o5, some (.int x)] (.int x :: st) h Q := go_lo (E := (.iload 6, 0, 0, 0)) rfl rfl rfl
theorem s_39_56 : Go d 39 56 L [.int x] h Q = Q (some (.int x)) h := go_ri rfl rfl
theorem s_39_57 : Go d 39 57 [some (.ref r), o1, o2, o3, o4, o5, o6] (st) h Q = Go d 39 58 [some (.ref r), o1, o2, o3, o4, o5, o6] (.ref r :: st) h Q := go_lo (E := (.aload_n 0, 0, 0, 0)) rfl rfl rfl
theorem s_39_58 : Go d 39 58 L (.ref 1 :: st) (HP lx xs M) Q = Go d 39 61 L (.ref 2 :: st) (HP lx xs M) Q := go_gf rfl rfl (by decide) rfl
theorem s_39_61 : Go d 39 61 [o0, o1, o2, o3, o4, some (.ref r), o6] (st) h Q = Go d 39 63 [o0, o1, o2, o3, o4, some (.ref r), o6] (.ref r :: st) h Q := go_lo (E := (.aload 5, 0, 0, 0)) rfl rfl rfl
theorem s_39_63_45 : Go d 39 63 L (.ref 45 :: st) (HP lx xs M) Q = Go d 39 66 L (.ref 46 :: st) (HP lx xs M) Q := go_gf rfl rfl (by decide) rfl
theorem s_39_63_47 : Go d 39 63 L (.ref 47 :: st) (HP lx xs M) Q = Go d 39 66 L (.ref 48 :: st) (HP lx xs M) Q := go_gf rfl rfl (by decide) rfl
theorem s_39_63_49 : Go d 39 63 L (.ref 49 :: st) (HP lx xs M) Q = Go d 39 66 L (.ref 50 :: st) (HP lx xs M) Q := go_gf rfl rfl (by decide) rfl
theorem s_39_63_51 : Go d 39 63 L (.ref 51 :: st) (HP lx xs M) Q = Go d 39 66 L (.ref 52 :: st) (HP lx xs M) Q := go_gf rfl rfl (by decide) rfl
theorem s_39_66 : Go d 39 66 [o0, o1, o2, some (.int x), o4, o5, o6] (st) h Q = Go d 39 67 [o0, o1, o2, some (.int x), o4, o5, o6] (.int x :: st) h Q := go_lo (E := (.iload_n 3, 0, 0, 0)) rfl rfl rfl
theorem s_39_67 : Go d 39 67 [o0, o1, o2, o3, some (.int x), o5, o6] (st) h Q = Go d 39 69 [o0, o1, o2, o3, some (.int x), o5, o6] (.int x :: st) h Q := go_lo (E := (.iload 4, 0, 0, 0)) rfl rfl rfl
theorem s_39_69 {a2 : Int32} {a3 : Int32} {ar1 : Nat} : Go (d + 1) 39 69 L [.int a3, .int a2, .ref ar1, .ref 2] (HP lx xs M) Q = Go d 76 0 [some (.ref 2), some (.ref ar1), some (.int a2), some (.int a3), none, none, none, none] [] (HP lx xs M) (fun v h2 => Go (d + 1) 39 72 L (ap v []) h2 Q) := go_cx (E := (.invokevirtual 219, 76, 0, 3)) (k' := 76) (as := [.ref 2, .ref ar1, .int a2, .int a3]) rfl rfl rfl rfl rfl rfl rfl rfl
theorem s_39_72 : Go d 39 72 L (.int x :: st) h Q = (if x = 0 then Go d 39 80 L st h Q else Go d 39 75 L st h Q) := go_ifeq rfl
theorem s_39_75 : Go d 39 75 [o0, o1, o2, o3, some (.int x), o5, o6] (st) h Q = Go d 39 77 [o0, o1, o2, o3, some (.int x), o5, o6] (.int x :: st) h Q := go_lo (E := (.iload 4, 0, 0, 0)) rfl rfl rfl
theorem s_39_77 : Go d 39 77 L (st) h Q = Go d 39 82 L (st) h Q := go_goto rfl
theorem s_39_80 : Go d 39 80 L (st) h Q = Go d 39 82 L (.int (-2) :: st) h Q := go_bi rfl ci_bm2
theorem s_39_82 : Go d 39 82 L [.int x] h Q = Q (some (.int x)) h := go_ri rfl rfl
theorem s_40_0 : Go d 40 0 [o0, some (.int x), o2, o3, o4, o5, o6, o7] (st) h Q = Go d 40 1 [o0, some (.int x), o2, o3, o4, o5, o6, o7] (.int x :: st) h Q := go_lo (E := (.iload_n 1, 0, 0, 0)) rfl rfl rfl
theorem s_40_1 {a0 : Int32} : Go (d + 1) 40 1 L [.int a0] h Q = Go d 45 0 [some (.int a0)] [] h (fun v h2 => Go (d + 1) 40 4 L (ap v []) h2 Q) := go_cx (E := (.invokestatic 55, 45, 0, 0)) (k' := 45) (as := [.int a0]) rfl rfl rfl rfl rfl rfl rfl rfl
theorem s_40_4 : Go d 40 4 L (.int x :: st) h Q = (if x = 0 then Go d 40 21 L st h Q else Go d 40 7 L st h Q) := go_ifeq rfl
theorem s_40_7 : Go d 40 7 [o0, o1, some (.int x), o3, o4, o5, o6, o7] (st) h Q = Go d 40 8 [o0, o1, some (.int x), o3, o4, o5, o6, o7] (.int x :: st) h Q := go_lo (E := (.iload_n 2, 0, 0, 0)) rfl rfl rfl
theorem s_40_8 {a0 : Int32} : Go (d + 1) 40 8 L [.int a0] h Q = Go d 47 0 [some (.int a0)] [] h (fun v h2 => Go (d + 1) 40 11 L (ap v []) h2 Q) := go_cx (E := (.invokestatic 207, 47, 0, 0)) (k' := 47) (as := [.int a0]) rfl rfl rfl rfl rfl rfl rfl rfl
theorem s_40_11 : Go d 40 11 L (.int x :: st) h Q = (if x = 0 then Go d 40 21 L st h Q else Go d 40 14 L st h Q) := go_ifeq rfl
theorem s_40_14 : Go d 40 14 [o0, o1, o2, some (.int x), o4, o5, o6, o7] (st) h Q = Go d 40 15 [o0, o1, o2, some (.int x), o4, o5, o6, o7] (.int x :: st) h Q := go_lo (E := (.iload_n 3, 0, 0, 0)) rfl rfl rfl
theorem s_40_15 {a0 : Int32} : Go (d + 1) 40 15 L [.int a0] h Q = Go d 48 0 [some (.int a0)] [] h (fun v h2 => Go (d + 1) 40 18 L (ap v []) h2 Q) := go_cx (E := (.invokestatic 210, 48, 0, 0)) (k' := 48) (as := [.int a0]) rfl rfl rfl rfl rfl rfl rfl rfl
theorem s_40_18 : Go d 40 18 L (.int x :: st) h Q = (if x = 0 then Go d 40 21 L st h Q else Go d 40 23 L st h Q) := go_ifne rfl
theorem s_40_21 : Go d 40 21 L (st) h Q = Go d 40 22 L (.int (-1) :: st) h Q := go_ic rfl ci_im1
theorem s_40_22 : Go d 40 22 L [.int x] h Q = Q (some (.int x)) h := go_ri rfl rfl
theorem s_40_23 : Go d 40 23 [some (.ref r), o1, o2, o3, o4, o5, o6, o7] (st) h Q = Go d 40 24 [some (.ref r), o1, o2, o3, o4, o5, o6, o7] (.ref r :: st) h Q := go_lo (E := (.aload_n 0, 0, 0, 0)) rfl rfl rfl
theorem s_40_24 : Go d 40 24 L (.ref 1 :: st) (HP lx xs M) Q = Go d 40 27 L (.ref 44 :: st) (HP lx xs M) Q := go_gf rfl rfl (by decide) rfl
theorem s_40_27 : Go d 40 27 [o0, o1, some (.int x), o3, o4, o5, o6, o7] (st) h Q = Go d 40 28 [o0, o1, some (.int x), o3, o4, o5, o6, o7] (.int x :: st) h Q := go_lo (E := (.iload_n 2, 0, 0, 0)) rfl rfl rfl
theorem s_40_28_0 : Go d 40 28 L (.int (nI 0) :: .ref 44 :: st) (HP lx xs M) Q = Go d 40 29 L (.ref 45 :: st) (HP lx xs M) Q := go_ql rfl rfl (by decide) (by decide +kernel) (by decide +kernel)
theorem s_40_28_1 : Go d 40 28 L (.int (nI 1) :: .ref 44 :: st) (HP lx xs M) Q = Go d 40 29 L (.ref 47 :: st) (HP lx xs M) Q := go_ql rfl rfl (by decide) (by decide +kernel) (by decide +kernel)
theorem s_40_28_2 : Go d 40 28 L (.int (nI 2) :: .ref 44 :: st) (HP lx xs M) Q = Go d 40 29 L (.ref 49 :: st) (HP lx xs M) Q := go_ql rfl rfl (by decide) (by decide +kernel) (by decide +kernel)
theorem s_40_28_3 : Go d 40 28 L (.int (nI 3) :: .ref 44 :: st) (HP lx xs M) Q = Go d 40 29 L (.ref 51 :: st) (HP lx xs M) Q := go_ql rfl rfl (by decide) (by decide +kernel) (by decide +kernel)
theorem s_40_29 : Go d 40 29 [o0, o1, o2, o3, o4, o5, o6, o7] (.ref r :: st) h Q = Go d 40 31 [o0, o1, o2, o3, o4, some (.ref r), o6, o7] (st) h Q := go_lo (E := (.astore 5, 0, 0, 0)) rfl rfl rfl
theorem s_40_31 : Go d 40 31 [o0, o1, o2, o3, o4, some (.ref r), o6, o7] (st) h Q = Go d 40 33 [o0, o1, o2, o3, o4, some (.ref r), o6, o7] (.ref r :: st) h Q := go_lo (E := (.aload 5, 0, 0, 0)) rfl rfl rfl
theorem s_40_33 : Go d 40 33 [o0, o1, o2, some (.int x), o4, o5, o6, o7] (st) h Q = Go d 40 34 [o0, o1, o2, some (.int x), o4, o5, o6, o7] (.int x :: st) h Q := go_lo (E := (.iload_n 3, 0, 0, 0)) rfl rfl rfl
theorem s_40_34 : Go d 40 34 [o0, o1, o2, o3, some (.int x), o5, o6, o7] (st) h Q = Go d 40 36 [o0, o1, o2, o3, some (.int x), o5, o6, o7] (.int x :: st) h Q := go_lo (E := (.iload 4, 0, 0, 0)) rfl rfl rfl
theorem s_40_36 : Go d 40 36 [some (.ref r), o1, o2, o3, o4, o5, o6, o7] (st) h Q = Go d 40 37 [some (.ref r), o1, o2, o3, o4, o5, o6, o7] (.ref r :: st) h Q := go_lo (E := (.aload_n 0, 0, 0, 0)) rfl rfl rfl
theorem s_40_37 : Go d 40 37 L (.ref 1 :: st) (HP lx xs M) Q = Go d 40 40 L (.ref 2 :: st) (HP lx xs M) Q := go_gf rfl rfl (by decide) rfl
theorem s_40_40 : Go d 40 40 L (.ref 2 :: st) (HP lx xs M) Q = Go d 40 43 L (.int (M 2 0) :: st) (HP lx xs M) Q := go_gf rfl rfl (by decide) rfl
theorem s_40_43_45 {a1 : Int32} {a2 : Int32} {a3 : Int32} : Go (d + 1) 40 43 L [.int a3, .int a2, .int a1, .ref 45] (HP lx xs M) Q = Go d 3 0 [some (.ref 45), some (.int a1), some (.int a2), some (.int a3)] [] (HP lx xs M) (fun v h2 => Go (d + 1) 40 46 L (ap v []) h2 Q) := go_cx (E := (.invokevirtual 213, 3, 0, 5)) (k' := 3) (as := [.ref 45, .int a1, .int a2, .int a3]) rfl rfl rfl rfl rfl rfl rfl rfl
theorem s_40_43_47 {a1 : Int32} {a2 : Int32} {a3 : Int32} : Go (d + 1) 40 43 L [.int a3, .int a2, .int a1, .ref 47] (HP lx xs M) Q = Go d 3 0 [some (.ref 47), some (.int a1), some (.int a2), some (.int a3)] [] (HP lx xs M) (fun v h2 => Go (d + 1) 40 46 L (ap v []) h2 Q) := go_cx (E := (.invokevirtual 213, 3, 0, 5)) (k' := 3) (as := [.ref 47, .int a1, .int a2, .int a3]) rfl rfl rfl rfl rfl rfl rfl rfl
theorem s_40_43_49 {a1 : Int32} {a2 : Int32} {a3 : Int32} : Go (d + 1) 40 43 L [.int a3, .int a2, .int a1, .ref 49] (HP lx xs M) Q = Go d 3 0 [some (.ref 49), some (.int a1), some (.int a2), some (.int a3)] [] (HP lx xs M) (fun v h2 => Go (d + 1) 40 46 L (ap v []) h2 Q) := go_cx (E := (.invokevirtual 213, 3, 0, 5)) (k' := 3) (as := [.ref 49, .int a1, .int a2, .int a3]) rfl rfl rfl rfl rfl rfl rfl rfl
theorem s_40_43_51 {a1 : Int32} {a2 : Int32} {a3 : Int32} : Go (d + 1) 40 43 L [.int a3, .int a2, .int a1, .ref 51] (HP lx xs M) Q = Go d 3 0 [some (.ref 51), some (.int a1), some (.int a2), some (.int a3)] [] (HP lx xs M) (fun v h2 => Go (d + 1) 40 46 L (ap v []) h2 Q) := go_cx (E := (.invokevirtual 213, 3, 0, 5)) (k' := 3) (as := [.ref 51, .int a1, .int a2, .int a3]) rfl rfl rfl rfl rfl rfl rfl rfl
theorem s_40_46 : Go d 40 46 [o0, o1, o2, o3, o4, o5, o6, o7] (.int x :: st) h Q = Go d 40 48 [o0, o1, o2, o3, o4, o5, some (.int x), o7] (st) h Q := go_lo (E := (.istore 6, 0, 0, 0)) rfl rfl rfl
theorem s_40_48 : Go d 40 48 [o0, o1, o2, o3, o4, o5, some (.int x), o7] (st) h Q = Go d 40 50 [o0, o1, o2, o3, o4, o5, some (.int x), o7] (.int x :: st) h Q := go_lo (E := (.iload 6, 0, 0, 0)) rfl rfl rfl
theorem s_40_50 : Go d 40 50 L (.int x :: st) h Q = (if x = 0 then Go d 40 56 L st h Q else Go d 40 53 L st h Q) := go_ifeq rfl
theorem s_40_53 : Go d 40 53 [o0, o1, o2, o3, o4, o5, some (.int x), o7] (st) h Q = Go d 40 55 [o0, o1, o2, o3, o4, o5, some (.int x), o7] (.int x :: st) h Q := go_lo (E := (.iload 6, 0, 0, 0)) rfl rfl rfl
theorem s_40_55 : Go d 40 55 L [.int x] h Q = Q (some (.int x)) h := go_ri rfl rfl
theorem s_40_56 : Go d 40 56 L (st) h Q = Go d 40 57 L (.int (nI 0) :: st) h Q := go_ic rfl ci_i0
theorem s_40_57 : Go d 40 57 [o0, o1, o2, o3, o4, o5, o6, o7] (.int x :: st) h Q = Go d 40 59 [o0, o1, o2, o3, o4, o5, o6, some (.int x)] (st) h Q := go_lo (E := (.istore 7, 0, 0, 0)) rfl rfl rfl
theorem s_40_59 : Go d 40 59 [o0, o1, o2, o3, o4, o5, o6, some (.int x)] (st) h Q = Go d 40 61 [o0, o1, o2, o3, o4, o5, o6, some (.int x)] (.int x :: st) h Q := go_lo (E := (.iload 7, 0, 0, 0)) rfl rfl rfl
theorem s_40_61 : Go d 40 61 [some (.ref r), o1, o2, o3, o4, o5, o6, o7] (st) h Q = Go d 40 62 [some (.ref r), o1, o2, o3, o4, o5, o6, o7] (.ref r :: st) h Q := go_lo (E := (.aload_n 0, 0, 0, 0)) rfl rfl rfl
theorem s_40_62 : Go d 40 62 L (.ref 1 :: st) (HP lx xs M) Q = Go d 40 65 L (.ref 2 :: st) (HP lx xs M) Q := go_gf rfl rfl (by decide) rfl
theorem s_40_65 : Go d 40 65 L (.ref 2 :: st) (HP lx xs M) Q = Go d 40 68 L (.int (M 2 0) :: st) (HP lx xs M) Q := go_gf rfl rfl (by decide) rfl
theorem s_40_68 : Go d 40 68 L (.int y :: .int x :: st) h Q = (if x < y then Go d 40 71 L st h Q else Go d 40 97 L st h Q) := go_icge rfl
theorem s_40_71 : Go d 40 71 [o0, o1, o2, o3, o4, some (.ref r), o6, o7] (st) h Q = Go d 40 73 [o0, o1, o2, o3, o4, some (.ref r), o6, o7] (.ref r :: st) h Q := go_lo (E := (.aload 5, 0, 0, 0)) rfl rfl rfl
theorem s_40_73 : Go d 40 73 [o0, o1, o2, o3, some (.int x), o5, o6, o7] (st) h Q = Go d 40 75 [o0, o1, o2, o3, some (.int x), o5, o6, o7] (.int x :: st) h Q := go_lo (E := (.iload 4, 0, 0, 0)) rfl rfl rfl
theorem s_40_75 : Go d 40 75 [o0, o1, o2, o3, o4, o5, o6, some (.int x)] (st) h Q = Go d 40 77 [o0, o1, o2, o3, o4, o5, o6, some (.int x)] (.int x :: st) h Q := go_lo (E := (.iload 7, 0, 0, 0)) rfl rfl rfl
theorem s_40_77 : Go d 40 77 L (.int y :: .int x :: st) h Q = Go d 40 78 L (.int (x + y) :: st) h Q := go_op (E := (.iadd, 0, 0, 0)) rfl rfl
theorem s_40_78 : Go d 40 78 [some (.ref r), o1, o2, o3, o4, o5, o6, o7] (st) h Q = Go d 40 79 [some (.ref r), o1, o2, o3, o4, o5, o6, o7] (.ref r :: st) h Q := go_lo (E := (.aload_n 0, 0, 0, 0)) rfl rfl rfl
theorem s_40_79 : Go d 40 79 L (.ref 1 :: st) (HP lx xs M) Q = Go d 40 82 L (.ref 2 :: st) (HP lx xs M) Q := go_gf rfl rfl (by decide) rfl
theorem s_40_82 : Go d 40 82 [o0, o1, o2, o3, o4, o5, o6, some (.int x)] (st) h Q = Go d 40 84 [o0, o1, o2, o3, o4, o5, o6, some (.int x)] (.int x :: st) h Q := go_lo (E := (.iload 7, 0, 0, 0)) rfl rfl rfl
theorem s_40_84 : Go d 40 84 [o0, some (.int x), o2, o3, o4, o5, o6, o7] (st) h Q = Go d 40 85 [o0, some (.int x), o2, o3, o4, o5, o6, o7] (.int x :: st) h Q := go_lo (E := (.iload_n 1, 0, 0, 0)) rfl rfl rfl
theorem s_40_85 {a1 : Int32} {a2 : Int32} {z1 : Int32} {zr0 : Nat} : Go (d + 1) 40 85 L [.int a2, .int a1, .ref 2, .int z1, .ref zr0] (HP lx xs M) Q = Go d 59 0 [some (.ref 2), some (.int a1), some (.int a2)] [] (HP lx xs M) (fun v h2 => Go (d + 1) 40 88 L (ap v [.int z1, .ref zr0]) h2 Q) := go_cx (E := (.invokevirtual 58, 59, 0, 3)) (k' := 59) (as := [.ref 2, .int a1, .int a2]) rfl rfl rfl rfl rfl rfl rfl rfl
theorem s_40_88_45 {a1 : Int32} {a2 : Int32} : Go (d + 1) 40 88 L [.int a2, .int a1, .ref 45] (HP lx xs M) Q = Go d 6 0 [some (.ref 45), some (.int a1), some (.int a2)] [] (HP lx xs M) (fun v h2 => Go (d + 1) 40 91 L (ap v []) h2 Q) := go_cx (E := (.invokevirtual 223, 6, 0, 5)) (k' := 6) (as := [.ref 45, .int a1, .int a2]) rfl rfl rfl rfl rfl rfl rfl rfl
theorem s_40_88_47 {a1 : Int32} {a2 : Int32} : Go (d + 1) 40 88 L [.int a2, .int a1, .ref 47] (HP lx xs M) Q = Go d 6 0 [some (.ref 47), some (.int a1), some (.int a2)] [] (HP lx xs M) (fun v h2 => Go (d + 1) 40 91 L (ap v []) h2 Q) := go_cx (E := (.invokevirtual 223, 6, 0, 5)) (k' := 6) (as := [.ref 47, .int a1, .int a2]) rfl rfl rfl rfl rfl rfl rfl rfl
theorem s_40_88_49 {a1 : Int32} {a2 : Int32} : Go (d + 1) 40 88 L [.int a2, .int a1, .ref 49] (HP lx xs M) Q = Go d 6 0 [some (.ref 49), some (.int a1), some (.int a2)] [] (HP lx xs M) (fun v h2 => Go (d + 1) 40 91 L (ap v []) h2 Q) := go_cx (E := (.invokevirtual 223, 6, 0, 5)) (k' := 6) (as := [.ref 49, .int a1, .int a2]) rfl rfl rfl rfl rfl rfl rfl rfl
theorem s_40_88_51 {a1 : Int32} {a2 : Int32} : Go (d + 1) 40 88 L [.int a2, .int a1, .ref 51] (HP lx xs M) Q = Go d 6 0 [some (.ref 51), some (.int a1), some (.int a2)] [] (HP lx xs M) (fun v h2 => Go (d + 1) 40 91 L (ap v []) h2 Q) := go_cx (E := (.invokevirtual 223, 6, 0, 5)) (k' := 6) (as := [.ref 51, .int a1, .int a2]) rfl rfl rfl rfl rfl rfl rfl rfl
theorem s_40_91 : Go d 40 91 [o0, o1, o2, o3, o4, o5, o6, some (.int x)] (st) h Q = Go d 40 94 [o0, o1, o2, o3, o4, o5, o6, some (.int (x + nI 1))] (st) h Q := (ci_i1 ▸ go_lo (E := (.iinc 7 1, 0, 0, 0)) rfl rfl rfl : _ = Go d 40 94 [o0, o1, o2, o3, o4, o5, o6, some (.int (x + nI 1))] (st) h Q)
theorem s_40_94 : Go d 40 94 L (st) h Q = Go d 40 59 L (st) h Q := go_goto rfl
theorem s_40_97 : Go d 40 97 [some (.ref r), o1, o2, o3, o4, o5, o6, o7] (st) h Q = Go d 40 98 [some (.ref r), o1, o2, o3, o4, o5, o6, o7] (.ref r :: st) h Q := go_lo (E := (.aload_n 0, 0, 0, 0)) rfl rfl rfl
theorem s_40_98 : Go d 40 98 L (.ref 1 :: st) (HP lx xs M) Q = Go d 40 101 L (.ref 2 :: st) (HP lx xs M) Q := go_gf rfl rfl (by decide) rfl
theorem s_40_101 : Go d 40 101 L (.ref 2 :: st) (HP lx xs M) Q = Go d 40 104 L (.int (M 2 0) :: st) (HP lx xs M) Q := go_gf rfl rfl (by decide) rfl
theorem s_40_104 : Go d 40 104 L [.int x] h Q = Q (some (.int x)) h := go_ri rfl rfl
theorem s_41_0 : Go d 41 0 [o0, some (.int x), o2, o3] (st) h Q = Go d 41 1 [o0, some (.int x), o2, o3] (.int x :: st) h Q := go_lo (E := (.iload_n 1, 0, 0, 0)) rfl rfl rfl
theorem s_41_1 {a0 : Int32} : Go (d + 1) 41 1 L [.int a0] h Q = Go d 47 0 [some (.int a0)] [] h (fun v h2 => Go (d + 1) 41 4 L (ap v []) h2 Q) := go_cx (E := (.invokestatic 207, 47, 0, 0)) (k' := 47) (as := [.int a0]) rfl rfl rfl rfl rfl rfl rfl rfl
theorem s_41_4 : Go d 41 4 L (.int x :: st) h Q = (if x = 0 then Go d 41 20 L st h Q else Go d 41 7 L st h Q) := go_ifeq rfl
theorem s_41_7 : Go d 41 7 [o0, o1, some (.int x), o3] (st) h Q = Go d 41 8 [o0, o1, some (.int x), o3] (.int x :: st) h Q := go_lo (E := (.iload_n 2, 0, 0, 0)) rfl rfl rfl
theorem s_41_8 {a0 : Int32} : Go (d + 1) 41 8 L [.int a0] h Q = Go d 48 0 [some (.int a0)] [] h (fun v h2 => Go (d + 1) 41 11 L (ap v []) h2 Q) := go_cx (E := (.invokestatic 210, 48, 0, 0)) (k' := 48) (as := [.int a0]) rfl rfl rfl rfl rfl rfl rfl rfl
theorem s_41_11 : Go d 41 11 L (.int x :: st) h Q = (if x = 0 then Go d 41 20 L st h Q else Go d 41 14 L st h Q) := go_ifeq rfl
theorem s_41_14 : Go d 41 14 [o0, o1, o2, some (.int x)] (st) h Q = Go d 41 15 [o0, o1, o2, some (.int x)] (.int x :: st) h Q := go_lo (E := (.iload_n 3, 0, 0, 0)) rfl rfl rfl
theorem s_41_15 : Go d 41 15 L (st) h Q = Go d 41 17 L (.int (nI 24) :: st) h Q := go_bi rfl ci_b24
theorem s_41_17 : Go d 41 17 L (.int y :: .int x :: st) h Q = (if y < x then Go d 41 20 L st h Q else Go d 41 22 L st h Q) := go_icle rfl
theorem s_41_20 : Go d 41 20 L (st) h Q = Go d 41 21 L (.int (-1) :: st) h Q := go_ic rfl ci_im1
theorem s_41_21 : Go d 41 21 L [.int x] h Q = Q (some (.int x)) h := go_ri rfl rfl
theorem s_41_22 : Go d 41 22 [o0, o1, o2, some (.int x)] (st) h Q = Go d 41 23 [o0, o1, o2, some (.int x)] (.int x :: st) h Q := go_lo (E := (.iload_n 3, 0, 0, 0)) rfl rfl rfl
theorem s_41_23 : Go d 41 23 L (.int x :: st) h Q = (if x < 0 then Go d 41 26 L st h Q else Go d 41 29 L st h Q) := go_ifge rfl
theorem s_41_26 : Go d 41 26 L (st) h Q = Go d 41 28 L (.int (-14) :: st) h Q := go_bi rfl ci_bm14
theorem s_41_28 : Go d 41 28 L [.int x] h Q = Q (some (.int x)) h := go_ri rfl rfl
theorem s_41_29 : Go d 41 29 [some (.ref r), o1, o2, o3] (st) h Q = Go d 41 30 [some (.ref r), o1, o2, o3] (.ref r :: st) h Q := go_lo (E := (.aload_n 0, 0, 0, 0)) rfl rfl rfl
theorem s_41_30 : Go d 41 30 L (.ref 1 :: st) (HP lx xs M) Q = Go d 41 33 L (.ref 44 :: st) (HP lx xs M) Q := go_gf rfl rfl (by decide) rfl
theorem s_41_33 : Go d 41 33 [o0, some (.int x), o2, o3] (st) h Q = Go d 41 34 [o0, some (.int x), o2, o3] (.int x :: st) h Q := go_lo (E := (.iload_n 1, 0, 0, 0)) rfl rfl rfl
theorem s_41_34_0 : Go d 41 34 L (.int (nI 0) :: .ref 44 :: st) (HP lx xs M) Q = Go d 41 35 L (.ref 45 :: st) (HP lx xs M) Q := go_ql rfl rfl (by decide) (by decide +kernel) (by decide +kernel)
theorem s_41_34_1 : Go d 41 34 L (.int (nI 1) :: .ref 44 :: st) (HP lx xs M) Q = Go d 41 35 L (.ref 47 :: st) (HP lx xs M) Q := go_ql rfl rfl (by decide) (by decide +kernel) (by decide +kernel)
theorem s_41_34_2 : Go d 41 34 L (.int (nI 2) :: .ref 44 :: st) (HP lx xs M) Q = Go d 41 35 L (.ref 49 :: st) (HP lx xs M) Q := go_ql rfl rfl (by decide) (by decide +kernel) (by decide +kernel)
theorem s_41_34_3 : Go d 41 34 L (.int (nI 3) :: .ref 44 :: st) (HP lx xs M) Q = Go d 41 35 L (.ref 51 :: st) (HP lx xs M) Q := go_ql rfl rfl (by decide) (by decide +kernel) (by decide +kernel)
theorem s_41_35 : Go d 41 35 [o0, o1, some (.int x), o3] (st) h Q = Go d 41 36 [o0, o1, some (.int x), o3] (.int x :: st) h Q := go_lo (E := (.iload_n 2, 0, 0, 0)) rfl rfl rfl
theorem s_41_36 : Go d 41 36 [o0, o1, o2, some (.int x)] (st) h Q = Go d 41 37 [o0, o1, o2, some (.int x)] (.int x :: st) h Q := go_lo (E := (.iload_n 3, 0, 0, 0)) rfl rfl rfl
theorem s_41_37_45 {a1 : Int32} {a2 : Int32} : Go (d + 1) 41 37 L [.int a2, .int a1, .ref 45] (HP lx xs M) Q = Go d 4 0 [some (.ref 45), some (.int a1), some (.int a2)] [] (HP lx xs M) (fun v h2 => Go (d + 1) 41 40 L (ap v []) h2 Q) := go_cx (E := (.invokevirtual 226, 4, 0, 5)) (k' := 4) (as := [.ref 45, .int a1, .int a2]) rfl rfl rfl rfl rfl rfl rfl rfl
theorem s_41_37_47 {a1 : Int32} {a2 : Int32} : Go (d + 1) 41 37 L [.int a2, .int a1, .ref 47] (HP lx xs M) Q = Go d 4 0 [some (.ref 47), some (.int a1), some (.int a2)] [] (HP lx xs M) (fun v h2 => Go (d + 1) 41 40 L (ap v []) h2 Q) := go_cx (E := (.invokevirtual 226, 4, 0, 5)) (k' := 4) (as := [.ref 47, .int a1, .int a2]) rfl rfl rfl rfl rfl rfl rfl rfl
theorem s_41_37_49 {a1 : Int32} {a2 : Int32} : Go (d + 1) 41 37 L [.int a2, .int a1, .ref 49] (HP lx xs M) Q = Go d 4 0 [some (.ref 49), some (.int a1), some (.int a2)] [] (HP lx xs M) (fun v h2 => Go (d + 1) 41 40 L (ap v []) h2 Q) := go_cx (E := (.invokevirtual 226, 4, 0, 5)) (k' := 4) (as := [.ref 49, .int a1, .int a2]) rfl rfl rfl rfl rfl rfl rfl rfl
theorem s_41_37_51 {a1 : Int32} {a2 : Int32} : Go (d + 1) 41 37 L [.int a2, .int a1, .ref 51] (HP lx xs M) Q = Go d 4 0 [some (.ref 51), some (.int a1), some (.int a2)] [] (HP lx xs M) (fun v h2 => Go (d + 1) 41 40 L (ap v []) h2 Q) := go_cx (E := (.invokevirtual 226, 4, 0, 5)) (k' := 4) (as := [.ref 51, .int a1, .int a2]) rfl rfl rfl rfl rfl rfl rfl rfl
theorem s_41_40 : Go d 41 40 [o0, o1, o2, some (.int x)] (st) h Q = Go d 41 41 [o0, o1, o2, some (.int x)] (.int x :: st) h Q := go_lo (E := (.iload_n 3, 0, 0, 0)) rfl rfl rfl
theorem s_41_41 : Go d 41 41 L [.int x] h Q = Q (some (.int x)) h := go_ri rfl rfl
theorem s_42_0 : Go d 42 0 [o0, some (.int x), o2, o3] (st) h Q = Go d 42 1 [o0, some (.int x), o2, o3] (.int x :: st) h Q := go_lo (E := (.iload_n 1, 0, 0, 0)) rfl rfl rfl
theorem s_42_1 {a0 : Int32} : Go (d + 1) 42 1 L [.int a0] h Q = Go d 47 0 [some (.int a0)] [] h (fun v h2 => Go (d + 1) 42 4 L (ap v []) h2 Q) := go_cx (E := (.invokestatic 207, 47, 0, 0)) (k' := 47) (as := [.int a0]) rfl rfl rfl rfl rfl rfl rfl rfl
theorem s_42_4 : Go d 42 4 L (.int x :: st) h Q = (if x = 0 then Go d 42 7 L st h Q else Go d 42 9 L st h Q) := go_ifne rfl
theorem s_42_7 : Go d 42 7 L (st) h Q = Go d 42 8 L (.int (-1) :: st) h Q := go_ic rfl ci_im1
theorem s_42_8 : Go d 42 8 L [.int x] h Q = Q (some (.int x)) h := go_ri rfl rfl
theorem s_42_9 : Go d 42 9 [some (.ref r), o1, o2, o3] (st) h Q = Go d 42 10 [some (.ref r), o1, o2, o3] (.ref r :: st) h Q := go_lo (E := (.aload_n 0, 0, 0, 0)) rfl rfl rfl
theorem s_42_10 : Go d 42 10 L (.ref 1 :: st) (HP lx xs M) Q = Go d 42 13 L (.ref 44 :: st) (HP lx xs M) Q := go_gf rfl rfl (by decide) rfl
theorem s_42_13 : Go d 42 13 [o0, some (.int x), o2, o3] (st) h Q = Go d 42 14 [o0, some (.int x), o2, o3] (.int x :: st) h Q := go_lo (E := (.iload_n 1, 0, 0, 0)) rfl rfl rfl
theorem s_42_14_0 : Go d 42 14 L (.int (nI 0) :: .ref 44 :: st) (HP lx xs M) Q = Go d 42 15 L (.ref 45 :: st) (HP lx xs M) Q := go_ql rfl rfl (by decide) (by decide +kernel) (by decide +kernel)
theorem s_42_14_1 : Go d 42 14 L (.int (nI 1) :: .ref 44 :: st) (HP lx xs M) Q = Go d 42 15 L (.ref 47 :: st) (HP lx xs M) Q := go_ql rfl rfl (by decide) (by decide +kernel) (by decide +kernel)
theorem s_42_14_2 : Go d 42 14 L (.int (nI 2) :: .ref 44 :: st) (HP lx xs M) Q = Go d 42 15 L (.ref 49 :: st) (HP lx xs M) Q := go_ql rfl rfl (by decide) (by decide +kernel) (by decide +kernel)
theorem s_42_14_3 : Go d 42 14 L (.int (nI 3) :: .ref 44 :: st) (HP lx xs M) Q = Go d 42 15 L (.ref 51 :: st) (HP lx xs M) Q := go_ql rfl rfl (by decide) (by decide +kernel) (by decide +kernel)
theorem s_42_15 : Go d 42 15 [o0, o1, o2, o3] (.ref r :: st) h Q = Go d 42 16 [o0, o1, some (.ref r), o3] (st) h Q := go_lo (E := (.astore_n 2, 0, 0, 0)) rfl rfl rfl
theorem s_42_16 : Go d 42 16 [o0, o1, some (.ref r), o3] (st) h Q = Go d 42 17 [o0, o1, some (.ref r), o3] (.ref r :: st) h Q := go_lo (E := (.aload_n 2, 0, 0, 0)) rfl rfl rfl
theorem s_42_17_45  : Go (d + 1) 42 17 L [.ref 45] (HP lx xs M) Q = Go d 1 0 [some (.ref 45)] [] (HP lx xs M) (fun v h2 => Go (d + 1) 42 20 L (ap v []) h2 Q) := go_cx (E := (.invokevirtual 229, 1, 0, 5)) (k' := 1) (as := [.ref 45]) rfl rfl rfl rfl rfl rfl rfl rfl
theorem s_42_17_47  : Go (d + 1) 42 17 L [.ref 47] (HP lx xs M) Q = Go d 1 0 [some (.ref 47)] [] (HP lx xs M) (fun v h2 => Go (d + 1) 42 20 L (ap v []) h2 Q) := go_cx (E := (.invokevirtual 229, 1, 0, 5)) (k' := 1) (as := [.ref 47]) rfl rfl rfl rfl rfl rfl rfl rfl
theorem s_42_17_49  : Go (d + 1) 42 17 L [.ref 49] (HP lx xs M) Q = Go d 1 0 [some (.ref 49)] [] (HP lx xs M) (fun v h2 => Go (d + 1) 42 20 L (ap v []) h2 Q) := go_cx (E := (.invokevirtual 229, 1, 0, 5)) (k' := 1) (as := [.ref 49]) rfl rfl rfl rfl rfl rfl rfl rfl
theorem s_42_17_51  : Go (d + 1) 42 17 L [.ref 51] (HP lx xs M) Q = Go d 1 0 [some (.ref 51)] [] (HP lx xs M) (fun v h2 => Go (d + 1) 42 20 L (ap v []) h2 Q) := go_cx (E := (.invokevirtual 229, 1, 0, 5)) (k' := 1) (as := [.ref 51]) rfl rfl rfl rfl rfl rfl rfl rfl
theorem s_42_20 : Go d 42 20 L (.int x :: st) h Q = (if x = 0 then Go d 42 26 L st h Q else Go d 42 23 L st h Q) := go_ifeq rfl
theorem s_42_23 : Go d 42 23 L (st) h Q = Go d 42 25 L (.int (-11) :: st) h Q := go_bi rfl ci_bm11
theorem s_42_25 : Go d 42 25 L [.int x] h Q = Q (some (.int x)) h := go_ri rfl rfl
theorem s_42_26 : Go d 42 26 [o0, o1, some (.ref r), o3] (st) h Q = Go d 42 27 [o0, o1, some (.ref r), o3] (.ref r :: st) h Q := go_lo (E := (.aload_n 2, 0, 0, 0)) rfl rfl rfl
theorem s_42_27_45 : Go d 42 27 L (.ref 45 :: st) (HP lx xs M) Q = Go d 42 30 L (.int (M 45 1) :: st) (HP lx xs M) Q := go_gf rfl rfl (by decide) rfl
theorem s_42_27_47 : Go d 42 27 L (.ref 47 :: st) (HP lx xs M) Q = Go d 42 30 L (.int (M 47 1) :: st) (HP lx xs M) Q := go_gf rfl rfl (by decide) rfl
theorem s_42_27_49 : Go d 42 27 L (.ref 49 :: st) (HP lx xs M) Q = Go d 42 30 L (.int (M 49 1) :: st) (HP lx xs M) Q := go_gf rfl rfl (by decide) rfl
theorem s_42_27_51 : Go d 42 27 L (.ref 51 :: st) (HP lx xs M) Q = Go d 42 30 L (.int (M 51 1) :: st) (HP lx xs M) Q := go_gf rfl rfl (by decide) rfl
theorem s_42_30 : Go d 42 30 [o0, o1, o2, o3] (.int x :: st) h Q = Go d 42 31 [o0, o1, o2, some (.int x)] (st) h Q := go_lo (E := (.istore_n 3, 0, 0, 0)) rfl rfl rfl
theorem s_42_31 : Go d 42 31 [o0, o1, some (.ref r), o3] (st) h Q = Go d 42 32 [o0, o1, some (.ref r), o3] (.ref r :: st) h Q := go_lo (E := (.aload_n 2, 0, 0, 0)) rfl rfl rfl
theorem s_42_32_45  : Go (d + 1) 42 32 L [.ref 45] (HP lx xs M) Q = Go d 5 0 [some (.ref 45)] [] (HP lx xs M) (fun v h2 => Go (d + 1) 42 35 L (ap v []) h2 Q) := go_cx (E := (.invokevirtual 233, 5, 0, 5)) (k' := 5) (as := [.ref 45]) rfl rfl rfl rfl rfl rfl rfl rfl
theorem s_42_32_47  : Go (d + 1) 42 32 L [.ref 47] (HP lx xs M) Q = Go d 5 0 [some (.ref 47)] [] (HP lx xs M) (fun v h2 => Go (d + 1) 42 35 L (ap v []) h2 Q) := go_cx (E := (.invokevirtual 233, 5, 0, 5)) (k' := 5) (as := [.ref 47]) rfl rfl rfl rfl rfl rfl rfl rfl
theorem s_42_32_49  : Go (d + 1) 42 32 L [.ref 49] (HP lx xs M) Q = Go d 5 0 [some (.ref 49)] [] (HP lx xs M) (fun v h2 => Go (d + 1) 42 35 L (ap v []) h2 Q) := go_cx (E := (.invokevirtual 233, 5, 0, 5)) (k' := 5) (as := [.ref 49]) rfl rfl rfl rfl rfl rfl rfl rfl
theorem s_42_32_51  : Go (d + 1) 42 32 L [.ref 51] (HP lx xs M) Q = Go d 5 0 [some (.ref 51)] [] (HP lx xs M) (fun v h2 => Go (d + 1) 42 35 L (ap v []) h2 Q) := go_cx (E := (.invokevirtual 233, 5, 0, 5)) (k' := 5) (as := [.ref 51]) rfl rfl rfl rfl rfl rfl rfl rfl
theorem s_42_35 : Go d 42 35 [o0, o1, o2, some (.int x)] (st) h Q = Go d 42 36 [o0, o1, o2, some (.int x)] (.int x :: st) h Q := go_lo (E := (.iload_n 3, 0, 0, 0)) rfl rfl rfl
theorem s_42_36 : Go d 42 36 L [.int x] h Q = Q (some (.int x)) h := go_ri rfl rfl
theorem s_43_0 : Go d 43 0 [o0, some (.int x), o2, o3, o4, o5, o6] (st) h Q = Go d 43 1 [o0, some (.int x), o2, o3, o4, o5, o6] (.int x :: st) h Q := go_lo (E := (.iload_n 1, 0, 0, 0)) rfl rfl rfl
theorem s_43_1 {a0 : Int32} : Go (d + 1) 43 1 L [.int a0] h Q = Go d 47 0 [some (.int a0)] [] h (fun v h2 => Go (d + 1) 43 4 L (ap v []) h2 Q) := go_cx (E := (.invokestatic 207, 47, 0, 0)) (k' := 47) (as := [.int a0]) rfl rfl rfl rfl rfl rfl rfl rfl
theorem s_43_4 : Go d 43 4 L (.int x :: st) h Q = (if x = 0 then Go d 43 14 L st h Q else Go d 43 7 L st h Q) := go_ifeq rfl
theorem s_43_7 : Go d 43 7 [o0, o1, some (.int x), o3, o4, o5, o6] (st) h Q = Go d 43 8 [o0, o1, some (.int x), o3, o4, o5, o6] (.int x :: st) h Q := go_lo (E := (.iload_n 2, 0, 0, 0)) rfl rfl rfl
theorem s_43_8 {a0 : Int32} : Go (d + 1) 43 8 L [.int a0] h Q = Go d 48 0 [some (.int a0)] [] h (fun v h2 => Go (d + 1) 43 11 L (ap v []) h2 Q) := go_cx (E := (.invokestatic 210, 48, 0, 0)) (k' := 48) (as := [.int a0]) rfl rfl rfl rfl rfl rfl rfl rfl
theorem s_43_11 : Go d 43 11 L (.int x :: st) h Q = (if x = 0 then Go d 43 14 L st h Q else Go d 43 16 L st h Q) := go_ifne rfl
theorem s_43_14 : Go d 43 14 L (st) h Q = Go d 43 15 L (.int (-1) :: st) h Q := go_ic rfl ci_im1
theorem s_43_15 : Go d 43 15 L [.int x] h Q = Q (some (.int x)) h := go_ri rfl rfl
theorem s_43_16 : Go d 43 16 [some (.ref r), o1, o2, o3, o4, o5, o6] (st) h Q = Go d 43 17 [some (.ref r), o1, o2, o3, o4, o5, o6] (.ref r :: st) h Q := go_lo (E := (.aload_n 0, 0, 0, 0)) rfl rfl rfl
theorem s_43_17 : Go d 43 17 L (.ref 1 :: st) (HP lx xs M) Q = Go d 43 20 L (.ref 44 :: st) (HP lx xs M) Q := go_gf rfl rfl (by decide) rfl
theorem s_43_20 : Go d 43 20 [o0, some (.int x), o2, o3, o4, o5, o6] (st) h Q = Go d 43 21 [o0, some (.int x), o2, o3, o4, o5, o6] (.int x :: st) h Q := go_lo (E := (.iload_n 1, 0, 0, 0)) rfl rfl rfl
theorem s_43_21_0 : Go d 43 21 L (.int (nI 0) :: .ref 44 :: st) (HP lx xs M) Q = Go d 43 22 L (.ref 45 :: st) (HP lx xs M) Q := go_ql rfl rfl (by decide) (by decide +kernel) (by decide +kernel)
theorem s_43_21_1 : Go d 43 21 L (.int (nI 1) :: .ref 44 :: st) (HP lx xs M) Q = Go d 43 22 L (.ref 47 :: st) (HP lx xs M) Q := go_ql rfl rfl (by decide) (by decide +kernel) (by decide +kernel)
theorem s_43_21_2 : Go d 43 21 L (.int (nI 2) :: .ref 44 :: st) (HP lx xs M) Q = Go d 43 22 L (.ref 49 :: st) (HP lx xs M) Q := go_ql rfl rfl (by decide) (by decide +kernel) (by decide +kernel)
theorem s_43_21_3 : Go d 43 21 L (.int (nI 3) :: .ref 44 :: st) (HP lx xs M) Q = Go d 43 22 L (.ref 51 :: st) (HP lx xs M) Q := go_ql rfl rfl (by decide) (by decide +kernel) (by decide +kernel)
theorem s_43_22 : Go d 43 22 [o0, o1, o2, o3, o4, o5, o6] (.ref r :: st) h Q = Go d 43 24 [o0, o1, o2, o3, o4, some (.ref r), o6] (st) h Q := go_lo (E := (.astore 5, 0, 0, 0)) rfl rfl rfl
theorem s_43_24 : Go d 43 24 [o0, o1, o2, o3, o4, some (.ref r), o6] (st) h Q = Go d 43 26 [o0, o1, o2, o3, o4, some (.ref r), o6] (.ref r :: st) h Q := go_lo (E := (.aload 5, 0, 0, 0)) rfl rfl rfl
theorem s_43_26 : Go d 43 26 [o0, o1, some (.int x), o3, o4, o5, o6] (st) h Q = Go d 43 27 [o0, o1, some (.int x), o3, o4, o5, o6] (.int x :: st) h Q := go_lo (E := (.iload_n 2, 0, 0, 0)) rfl rfl rfl
theorem s_43_27 : Go d 43 27 [o0, o1, o2, some (.int x), o4, o5, o6] (st) h Q = Go d 43 28 [o0, o1, o2, some (.int x), o4, o5, o6] (.int x :: st) h Q := go_lo (E := (.iload_n 3, 0, 0, 0)) rfl rfl rfl
theorem s_43_28 : Go d 43 28 L (st) h Q = Go d 43 29 L (.int (nI 1) :: st) h Q := go_ic rfl ci_i1
theorem s_43_29_45 {a1 : Int32} {a2 : Int32} {a3 : Int32} : Go (d + 1) 43 29 L [.int a3, .int a2, .int a1, .ref 45] (HP lx xs M) Q = Go d 3 0 [some (.ref 45), some (.int a1), some (.int a2), some (.int a3)] [] (HP lx xs M) (fun v h2 => Go (d + 1) 43 32 L (ap v []) h2 Q) := go_cx (E := (.invokevirtual 213, 3, 0, 5)) (k' := 3) (as := [.ref 45, .int a1, .int a2, .int a3]) rfl rfl rfl rfl rfl rfl rfl rfl
theorem s_43_29_47 {a1 : Int32} {a2 : Int32} {a3 : Int32} : Go (d + 1) 43 29 L [.int a3, .int a2, .int a1, .ref 47] (HP lx xs M) Q = Go d 3 0 [some (.ref 47), some (.int a1), some (.int a2), some (.int a3)] [] (HP lx xs M) (fun v h2 => Go (d + 1) 43 32 L (ap v []) h2 Q) := go_cx (E := (.invokevirtual 213, 3, 0, 5)) (k' := 3) (as := [.ref 47, .int a1, .int a2, .int a3]) rfl rfl rfl rfl rfl rfl rfl rfl
theorem s_43_29_49 {a1 : Int32} {a2 : Int32} {a3 : Int32} : Go (d + 1) 43 29 L [.int a3, .int a2, .int a1, .ref 49] (HP lx xs M) Q = Go d 3 0 [some (.ref 49), some (.int a1), some (.int a2), some (.int a3)] [] (HP lx xs M) (fun v h2 => Go (d + 1) 43 32 L (ap v []) h2 Q) := go_cx (E := (.invokevirtual 213, 3, 0, 5)) (k' := 3) (as := [.ref 49, .int a1, .int a2, .int a3]) rfl rfl rfl rfl rfl rfl rfl rfl
theorem s_43_29_51 {a1 : Int32} {a2 : Int32} {a3 : Int32} : Go (d + 1) 43 29 L [.int a3, .int a2, .int a1, .ref 51] (HP lx xs M) Q = Go d 3 0 [some (.ref 51), some (.int a1), some (.int a2), some (.int a3)] [] (HP lx xs M) (fun v h2 => Go (d + 1) 43 32 L (ap v []) h2 Q) := go_cx (E := (.invokevirtual 213, 3, 0, 5)) (k' := 3) (as := [.ref 51, .int a1, .int a2, .int a3]) rfl rfl rfl rfl rfl rfl rfl rfl
theorem s_43_32 : Go d 43 32 [o0, o1, o2, o3, o4, o5, o6] (.int x :: st) h Q = Go d 43 34 [o0, o1, o2, o3, o4, o5, some (.int x)] (st) h Q := go_lo (E := (.istore 6, 0, 0, 0)) rfl rfl rfl
theorem s_43_34 : Go d 43 34 [o0, o1, o2, o3, o4, o5, some (.int x)] (st) h Q = Go d 43 36 [o0, o1, o2, o3, o4, o5, some (.int x)] (.int x :: st) h Q := go_lo (E := (.iload 6, 0, 0, 0)) rfl rfl rfl
theorem s_43_36 : Go d 43 36 L (.int x :: st) h Q = (if x = 0 then Go d 43 42 L st h Q else Go d 43 39 L st h Q) := go_ifeq rfl
theorem s_43_39 : Go d 43 39 [o0, o1, o2, o3, o4, o5, some (.int x)] (st) h Q = Go d 43 41 [o0, o1, o2, o3, o4, o5, some (.int x)] (.int x :: st) h Q := go_lo (E := (.iload 6, 0, 0, 0)) rfl rfl rfl
theorem s_43_41 : Go d 43 41 L [.int x] h Q = Q (some (.int x)) h := go_ri rfl rfl
theorem s_43_42 : Go d 43 42 [o0, o1, o2, o3, o4, some (.ref r), o6] (st) h Q = Go d 43 44 [o0, o1, o2, o3, o4, some (.ref r), o6] (.ref r :: st) h Q := go_lo (E := (.aload 5, 0, 0, 0)) rfl rfl rfl
theorem s_43_44 : Go d 43 44 [o0, o1, o2, some (.int x), o4, o5, o6] (st) h Q = Go d 43 45 [o0, o1, o2, some (.int x), o4, o5, o6] (.int x :: st) h Q := go_lo (E := (.iload_n 3, 0, 0, 0)) rfl rfl rfl
theorem s_43_45 : Go d 43 45 [o0, o1, o2, o3, some (.int x), o5, o6] (st) h Q = Go d 43 47 [o0, o1, o2, o3, some (.int x), o5, o6] (.int x :: st) h Q := go_lo (E := (.iload 4, 0, 0, 0)) rfl rfl rfl
theorem s_43_47_45 {a1 : Int32} {a2 : Int32} : Go (d + 1) 43 47 L [.int a2, .int a1, .ref 45] (HP lx xs M) Q = Go d 6 0 [some (.ref 45), some (.int a1), some (.int a2)] [] (HP lx xs M) (fun v h2 => Go (d + 1) 43 50 L (ap v []) h2 Q) := go_cx (E := (.invokevirtual 223, 6, 0, 5)) (k' := 6) (as := [.ref 45, .int a1, .int a2]) rfl rfl rfl rfl rfl rfl rfl rfl
theorem s_43_47_47 {a1 : Int32} {a2 : Int32} : Go (d + 1) 43 47 L [.int a2, .int a1, .ref 47] (HP lx xs M) Q = Go d 6 0 [some (.ref 47), some (.int a1), some (.int a2)] [] (HP lx xs M) (fun v h2 => Go (d + 1) 43 50 L (ap v []) h2 Q) := go_cx (E := (.invokevirtual 223, 6, 0, 5)) (k' := 6) (as := [.ref 47, .int a1, .int a2]) rfl rfl rfl rfl rfl rfl rfl rfl
theorem s_43_47_49 {a1 : Int32} {a2 : Int32} : Go (d + 1) 43 47 L [.int a2, .int a1, .ref 49] (HP lx xs M) Q = Go d 6 0 [some (.ref 49), some (.int a1), some (.int a2)] [] (HP lx xs M) (fun v h2 => Go (d + 1) 43 50 L (ap v []) h2 Q) := go_cx (E := (.invokevirtual 223, 6, 0, 5)) (k' := 6) (as := [.ref 49, .int a1, .int a2]) rfl rfl rfl rfl rfl rfl rfl rfl
theorem s_43_47_51 {a1 : Int32} {a2 : Int32} : Go (d + 1) 43 47 L [.int a2, .int a1, .ref 51] (HP lx xs M) Q = Go d 6 0 [some (.ref 51), some (.int a1), some (.int a2)] [] (HP lx xs M) (fun v h2 => Go (d + 1) 43 50 L (ap v []) h2 Q) := go_cx (E := (.invokevirtual 223, 6, 0, 5)) (k' := 6) (as := [.ref 51, .int a1, .int a2]) rfl rfl rfl rfl rfl rfl rfl rfl
theorem s_43_50 : Go d 43 50 L (st) h Q = Go d 43 51 L (.int (nI 1) :: st) h Q := go_ic rfl ci_i1
theorem s_43_51 : Go d 43 51 L [.int x] h Q = Q (some (.int x)) h := go_ri rfl rfl
theorem s_44_0 : Go d 44 0 [o0, some (.int x), o2, o3, o4, o5, o6, o7] (st) h Q = Go d 44 1 [o0, some (.int x), o2, o3, o4, o5, o6, o7] (.int x :: st) h Q := go_lo (E := (.iload_n 1, 0, 0, 0)) rfl rfl rfl
theorem s_44_1 {a0 : Int32} : Go (d + 1) 44 1 L [.int a0] h Q = Go d 47 0 [some (.int a0)] [] h (fun v h2 => Go (d + 1) 44 4 L (ap v []) h2 Q) := go_cx (E := (.invokestatic 207, 47, 0, 0)) (k' := 47) (as := [.int a0]) rfl rfl rfl rfl rfl rfl rfl rfl
theorem s_44_4 : Go d 44 4 L (.int x :: st) h Q = (if x = 0 then Go d 44 14 L st h Q else Go d 44 7 L st h Q) := go_ifeq rfl
theorem s_44_7 : Go d 44 7 [o0, o1, o2, some (.int x), o4, o5, o6, o7] (st) h Q = Go d 44 8 [o0, o1, o2, some (.int x), o4, o5, o6, o7] (.int x :: st) h Q := go_lo (E := (.iload_n 3, 0, 0, 0)) rfl rfl rfl
theorem s_44_8 {a0 : Int32} : Go (d + 1) 44 8 L [.int a0] h Q = Go d 47 0 [some (.int a0)] [] h (fun v h2 => Go (d + 1) 44 11 L (ap v []) h2 Q) := go_cx (E := (.invokestatic 207, 47, 0, 0)) (k' := 47) (as := [.int a0]) rfl rfl rfl rfl rfl rfl rfl rfl
theorem s_44_11 : Go d 44 11 L (.int x :: st) h Q = (if x = 0 then Go d 44 14 L st h Q else Go d 44 16 L st h Q) := go_ifne rfl
theorem s_44_14 : Go d 44 14 L (st) h Q = Go d 44 15 L (.int (-1) :: st) h Q := go_ic rfl ci_im1
theorem s_44_15 : Go d 44 15 L [.int x] h Q = Q (some (.int x)) h := go_ri rfl rfl
theorem s_44_16 : Go d 44 16 [some (.ref r), o1, o2, o3, o4, o5, o6, o7] (st) h Q = Go d 44 17 [some (.ref r), o1, o2, o3, o4, o5, o6, o7] (.ref r :: st) h Q := go_lo (E := (.aload_n 0, 0, 0, 0)) rfl rfl rfl
theorem s_44_17 : Go d 44 17 L (.ref 1 :: st) (HP lx xs M) Q = Go d 44 20 L (.ref 44 :: st) (HP lx xs M) Q := go_gf rfl rfl (by decide) rfl
theorem s_44_20 : Go d 44 20 [o0, some (.int x), o2, o3, o4, o5, o6, o7] (st) h Q = Go d 44 21 [o0, some (.int x), o2, o3, o4, o5, o6, o7] (.int x :: st) h Q := go_lo (E := (.iload_n 1, 0, 0, 0)) rfl rfl rfl
theorem s_44_21_0 : Go d 44 21 L (.int (nI 0) :: .ref 44 :: st) (HP lx xs M) Q = Go d 44 22 L (.ref 45 :: st) (HP lx xs M) Q := go_ql rfl rfl (by decide) (by decide +kernel) (by decide +kernel)
theorem s_44_21_1 : Go d 44 21 L (.int (nI 1) :: .ref 44 :: st) (HP lx xs M) Q = Go d 44 22 L (.ref 47 :: st) (HP lx xs M) Q := go_ql rfl rfl (by decide) (by decide +kernel) (by decide +kernel)
theorem s_44_21_2 : Go d 44 21 L (.int (nI 2) :: .ref 44 :: st) (HP lx xs M) Q = Go d 44 22 L (.ref 49 :: st) (HP lx xs M) Q := go_ql rfl rfl (by decide) (by decide +kernel) (by decide +kernel)
theorem s_44_21_3 : Go d 44 21 L (.int (nI 3) :: .ref 44 :: st) (HP lx xs M) Q = Go d 44 22 L (.ref 51 :: st) (HP lx xs M) Q := go_ql rfl rfl (by decide) (by decide +kernel) (by decide +kernel)
theorem s_44_22 : Go d 44 22 [o0, o1, o2, o3, o4, o5, o6, o7] (.ref r :: st) h Q = Go d 44 24 [o0, o1, o2, o3, o4, o5, some (.ref r), o7] (st) h Q := go_lo (E := (.astore 6, 0, 0, 0)) rfl rfl rfl
theorem s_44_24 : Go d 44 24 [some (.ref r), o1, o2, o3, o4, o5, o6, o7] (st) h Q = Go d 44 25 [some (.ref r), o1, o2, o3, o4, o5, o6, o7] (.ref r :: st) h Q := go_lo (E := (.aload_n 0, 0, 0, 0)) rfl rfl rfl
theorem s_44_25 : Go d 44 25 L (.ref 1 :: st) (HP lx xs M) Q = Go d 44 28 L (.ref 44 :: st) (HP lx xs M) Q := go_gf rfl rfl (by decide) rfl
theorem s_44_28 : Go d 44 28 [o0, o1, o2, some (.int x), o4, o5, o6, o7] (st) h Q = Go d 44 29 [o0, o1, o2, some (.int x), o4, o5, o6, o7] (.int x :: st) h Q := go_lo (E := (.iload_n 3, 0, 0, 0)) rfl rfl rfl
theorem s_44_29_0 : Go d 44 29 L (.int (nI 0) :: .ref 44 :: st) (HP lx xs M) Q = Go d 44 30 L (.ref 45 :: st) (HP lx xs M) Q := go_ql rfl rfl (by decide) (by decide +kernel) (by decide +kernel)
theorem s_44_29_1 : Go d 44 29 L (.int (nI 1) :: .ref 44 :: st) (HP lx xs M) Q = Go d 44 30 L (.ref 47 :: st) (HP lx xs M) Q := go_ql rfl rfl (by decide) (by decide +kernel) (by decide +kernel)
theorem s_44_29_2 : Go d 44 29 L (.int (nI 2) :: .ref 44 :: st) (HP lx xs M) Q = Go d 44 30 L (.ref 49 :: st) (HP lx xs M) Q := go_ql rfl rfl (by decide) (by decide +kernel) (by decide +kernel)
theorem s_44_29_3 : Go d 44 29 L (.int (nI 3) :: .ref 44 :: st) (HP lx xs M) Q = Go d 44 30 L (.ref 51 :: st) (HP lx xs M) Q := go_ql rfl rfl (by decide) (by decide +kernel) (by decide +kernel)
theorem s_44_30 : Go d 44 30 [o0, o1, o2, o3, o4, o5, o6, o7] (.ref r :: st) h Q = Go d 44 32 [o0, o1, o2, o3, o4, o5, o6, some (.ref r)] (st) h Q := go_lo (E := (.astore 7, 0, 0, 0)) rfl rfl rfl
theorem s_44_32 : Go d 44 32 [o0, o1, o2, o3, o4, o5, some (.ref r), o7] (st) h Q = Go d 44 34 [o0, o1, o2, o3, o4, o5, some (.ref r), o7] (.ref r :: st) h Q := go_lo (E := (.aload 6, 0, 0, 0)) rfl rfl rfl
theorem s_44_34_45  : Go (d + 1) 44 34 L [.ref 45] (HP lx xs M) Q = Go d 1 0 [some (.ref 45)] [] (HP lx xs M) (fun v h2 => Go (d + 1) 44 37 L (ap v []) h2 Q) := go_cx (E := (.invokevirtual 229, 1, 0, 5)) (k' := 1) (as := [.ref 45]) rfl rfl rfl rfl rfl rfl rfl rfl
theorem s_44_34_47  : Go (d + 1) 44 34 L [.ref 47] (HP lx xs M) Q = Go d 1 0 [some (.ref 47)] [] (HP lx xs M) (fun v h2 => Go (d + 1) 44 37 L (ap v []) h2 Q) := go_cx (E := (.invokevirtual 229, 1, 0, 5)) (k' := 1) (as := [.ref 47]) rfl rfl rfl rfl rfl rfl rfl rfl
theorem s_44_34_49  : Go (d + 1) 44 34 L [.ref 49] (HP lx xs M) Q = Go d 1 0 [some (.ref 49)] [] (HP lx xs M) (fun v h2 => Go (d + 1) 44 37 L (ap v []) h2 Q) := go_cx (E := (.invokevirtual 229, 1, 0, 5)) (k' := 1) (as := [.ref 49]) rfl rfl rfl rfl rfl rfl rfl rfl
theorem s_44_34_51  : Go (d + 1) 44 34 L [.ref 51] (HP lx xs M) Q = Go d 1 0 [some (.ref 51)] [] (HP lx xs M) (fun v h2 => Go (d + 1) 44 37 L (ap v []) h2 Q) := go_cx (E := (.invokevirtual 229, 1, 0, 5)) (k' := 1) (as := [.ref 51]) rfl rfl rfl rfl rfl rfl rfl rfl
theorem s_44_37 : Go d 44 37 L (.int x :: st) h Q = (if x = 0 then Go d 44 40 L st h Q else Go d 44 48 L st h Q) := go_ifne rfl
theorem s_44_40 : Go d 44 40 [o0, o1, o2, o3, o4, o5, o6, some (.ref r)] (st) h Q = Go d 44 42 [o0, o1, o2, o3, o4, o5, o6, some (.ref r)] (.ref r :: st) h Q := go_lo (E := (.aload 7, 0, 0, 0)) rfl rfl rfl
theorem s_44_42_45  : Go (d + 1) 44 42 L [.ref 45] (HP lx xs M) Q = Go d 1 0 [some (.ref 45)] [] (HP lx xs M) (fun v h2 => Go (d + 1) 44 45 L (ap v []) h2 Q) := go_cx (E := (.invokevirtual 229, 1, 0, 5)) (k' := 1) (as := [.ref 45]) rfl rfl rfl rfl rfl rfl rfl rfl
theorem s_44_42_47  : Go (d + 1) 44 42 L [.ref 47] (HP lx xs M) Q = Go d 1 0 [some (.ref 47)] [] (HP lx xs M) (fun v h2 => Go (d + 1) 44 45 L (ap v []) h2 Q) := go_cx (E := (.invokevirtual 229, 1, 0, 5)) (k' := 1) (as := [.ref 47]) rfl rfl rfl rfl rfl rfl rfl rfl
theorem s_44_42_49  : Go (d + 1) 44 42 L [.ref 49] (HP lx xs M) Q = Go d 1 0 [some (.ref 49)] [] (HP lx xs M) (fun v h2 => Go (d + 1) 44 45 L (ap v []) h2 Q) := go_cx (E := (.invokevirtual 229, 1, 0, 5)) (k' := 1) (as := [.ref 49]) rfl rfl rfl rfl rfl rfl rfl rfl
theorem s_44_42_51  : Go (d + 1) 44 42 L [.ref 51] (HP lx xs M) Q = Go d 1 0 [some (.ref 51)] [] (HP lx xs M) (fun v h2 => Go (d + 1) 44 45 L (ap v []) h2 Q) := go_cx (E := (.invokevirtual 229, 1, 0, 5)) (k' := 1) (as := [.ref 51]) rfl rfl rfl rfl rfl rfl rfl rfl
theorem s_44_45 : Go d 44 45 L (.int x :: st) h Q = (if x = 0 then Go d 44 51 L st h Q else Go d 44 48 L st h Q) := go_ifeq rfl
theorem s_44_48 : Go d 44 48 L (st) h Q = Go d 44 50 L (.int (-11) :: st) h Q := go_bi rfl ci_bm11
theorem s_44_50 : Go d 44 50 L [.int x] h Q = Q (some (.int x)) h := go_ri rfl rfl
theorem s_44_51 : Go d 44 51 [o0, o1, o2, o3, o4, o5, some (.ref r), o7] (st) h Q = Go d 44 53 [o0, o1, o2, o3, o4, o5, some (.ref r), o7] (.ref r :: st) h Q := go_lo (E := (.aload 6, 0, 0, 0)) rfl rfl rfl
theorem s_44_53_45 : Go d 44 53 L (.ref 45 :: st) (HP lx xs M) Q = Go d 44 56 L (.int (M 45 0) :: st) (HP lx xs M) Q := go_gf rfl rfl (by decide) rfl
theorem s_44_53_47 : Go d 44 53 L (.ref 47 :: st) (HP lx xs M) Q = Go d 44 56 L (.int (M 47 0) :: st) (HP lx xs M) Q := go_gf rfl rfl (by decide) rfl
theorem s_44_53_49 : Go d 44 53 L (.ref 49 :: st) (HP lx xs M) Q = Go d 44 56 L (.int (M 49 0) :: st) (HP lx xs M) Q := go_gf rfl rfl (by decide) rfl
theorem s_44_53_51 : Go d 44 53 L (.ref 51 :: st) (HP lx xs M) Q = Go d 44 56 L (.int (M 51 0) :: st) (HP lx xs M) Q := go_gf rfl rfl (by decide) rfl
theorem s_44_56 : Go d 44 56 [o0, o1, o2, o3, o4, o5, o6, some (.ref r)] (st) h Q = Go d 44 58 [o0, o1, o2, o3, o4, o5, o6, some (.ref r)] (.ref r :: st) h Q := go_lo (E := (.aload 7, 0, 0, 0)) rfl rfl rfl
theorem s_44_58_45 : Go d 44 58 L (.ref 45 :: st) (HP lx xs M) Q = Go d 44 61 L (.int (M 45 0) :: st) (HP lx xs M) Q := go_gf rfl rfl (by decide) rfl
theorem s_44_58_47 : Go d 44 58 L (.ref 47 :: st) (HP lx xs M) Q = Go d 44 61 L (.int (M 47 0) :: st) (HP lx xs M) Q := go_gf rfl rfl (by decide) rfl
theorem s_44_58_49 : Go d 44 58 L (.ref 49 :: st) (HP lx xs M) Q = Go d 44 61 L (.int (M 49 0) :: st) (HP lx xs M) Q := go_gf rfl rfl (by decide) rfl
theorem s_44_58_51 : Go d 44 58 L (.ref 51 :: st) (HP lx xs M) Q = Go d 44 61 L (.int (M 51 0) :: st) (HP lx xs M) Q := go_gf rfl rfl (by decide) rfl
theorem s_44_61 : Go d 44 61 L (.int y :: .int x :: st) h Q = (if x = y then Go d 44 67 L st h Q else Go d 44 64 L st h Q) := go_iceq rfl
theorem s_44_64 : Go d 44 64 L (st) h Q = Go d 44 66 L (.int (-12) :: st) h Q := go_bi rfl ci_bm12
theorem s_44_66 : Go d 44 66 L [.int x] h Q = Q (some (.int x)) h := go_ri rfl rfl
theorem s_44_67 : Go d 44 67 [o0, o1, o2, o3, o4, o5, some (.ref r), o7] (st) h Q = Go d 44 69 [o0, o1, o2, o3, o4, o5, some (.ref r), o7] (.ref r :: st) h Q := go_lo (E := (.aload 6, 0, 0, 0)) rfl rfl rfl
theorem s_44_69 : Go d 44 69 [o0, o1, some (.int x), o3, o4, o5, o6, o7] (st) h Q = Go d 44 70 [o0, o1, some (.int x), o3, o4, o5, o6, o7] (.int x :: st) h Q := go_lo (E := (.iload_n 2, 0, 0, 0)) rfl rfl rfl
theorem s_44_70 : Go d 44 70 [o0, o1, o2, o3, o4, some (.int x), o6, o7] (st) h Q = Go d 44 72 [o0, o1, o2, o3, o4, some (.int x), o6, o7] (.int x :: st) h Q := go_lo (E := (.iload 5, 0, 0, 0)) rfl rfl rfl
theorem s_44_72_45 {a1 : Int32} {a2 : Int32} : Go (d + 1) 44 72 L [.int a2, .int a1, .ref 45] (HP lx xs M) Q = Go d 2 0 [some (.ref 45), some (.int a1), some (.int a2)] [] (HP lx xs M) (fun v h2 => Go (d + 1) 44 75 L (ap v []) h2 Q) := go_cx (E := (.invokevirtual 239, 2, 0, 5)) (k' := 2) (as := [.ref 45, .int a1, .int a2]) rfl rfl rfl rfl rfl rfl rfl rfl
theorem s_44_72_47 {a1 : Int32} {a2 : Int32} : Go (d + 1) 44 72 L [.int a2, .int a1, .ref 47] (HP lx xs M) Q = Go d 2 0 [some (.ref 47), some (.int a1), some (.int a2)] [] (HP lx xs M) (fun v h2 => Go (d + 1) 44 75 L (ap v []) h2 Q) := go_cx (E := (.invokevirtual 239, 2, 0, 5)) (k' := 2) (as := [.ref 47, .int a1, .int a2]) rfl rfl rfl rfl rfl rfl rfl rfl
theorem s_44_72_49 {a1 : Int32} {a2 : Int32} : Go (d + 1) 44 72 L [.int a2, .int a1, .ref 49] (HP lx xs M) Q = Go d 2 0 [some (.ref 49), some (.int a1), some (.int a2)] [] (HP lx xs M) (fun v h2 => Go (d + 1) 44 75 L (ap v []) h2 Q) := go_cx (E := (.invokevirtual 239, 2, 0, 5)) (k' := 2) (as := [.ref 49, .int a1, .int a2]) rfl rfl rfl rfl rfl rfl rfl rfl
theorem s_44_72_51 {a1 : Int32} {a2 : Int32} : Go (d + 1) 44 72 L [.int a2, .int a1, .ref 51] (HP lx xs M) Q = Go d 2 0 [some (.ref 51), some (.int a1), some (.int a2)] [] (HP lx xs M) (fun v h2 => Go (d + 1) 44 75 L (ap v []) h2 Q) := go_cx (E := (.invokevirtual 239, 2, 0, 5)) (k' := 2) (as := [.ref 51, .int a1, .int a2]) rfl rfl rfl rfl rfl rfl rfl rfl
theorem s_44_75 : Go d 44 75 L (.int x :: st) h Q = (if x = 0 then Go d 44 90 L st h Q else Go d 44 78 L st h Q) := go_ifeq rfl
theorem s_44_78 : Go d 44 78 [o0, o1, o2, o3, o4, o5, o6, some (.ref r)] (st) h Q = Go d 44 80 [o0, o1, o2, o3, o4, o5, o6, some (.ref r)] (.ref r :: st) h Q := go_lo (E := (.aload 7, 0, 0, 0)) rfl rfl rfl
theorem s_44_80 : Go d 44 80 [o0, o1, o2, o3, some (.int x), o5, o6, o7] (st) h Q = Go d 44 82 [o0, o1, o2, o3, some (.int x), o5, o6, o7] (.int x :: st) h Q := go_lo (E := (.iload 4, 0, 0, 0)) rfl rfl rfl
theorem s_44_82 : Go d 44 82 [o0, o1, o2, o3, o4, some (.int x), o6, o7] (st) h Q = Go d 44 84 [o0, o1, o2, o3, o4, some (.int x), o6, o7] (.int x :: st) h Q := go_lo (E := (.iload 5, 0, 0, 0)) rfl rfl rfl
theorem s_44_84_45 {a1 : Int32} {a2 : Int32} : Go (d + 1) 44 84 L [.int a2, .int a1, .ref 45] (HP lx xs M) Q = Go d 2 0 [some (.ref 45), some (.int a1), some (.int a2)] [] (HP lx xs M) (fun v h2 => Go (d + 1) 44 87 L (ap v []) h2 Q) := go_cx (E := (.invokevirtual 239, 2, 0, 5)) (k' := 2) (as := [.ref 45, .int a1, .int a2]) rfl rfl rfl rfl rfl rfl rfl rfl
theorem s_44_84_47 {a1 : Int32} {a2 : Int32} : Go (d + 1) 44 84 L [.int a2, .int a1, .ref 47] (HP lx xs M) Q = Go d 2 0 [some (.ref 47), some (.int a1), some (.int a2)] [] (HP lx xs M) (fun v h2 => Go (d + 1) 44 87 L (ap v []) h2 Q) := go_cx (E := (.invokevirtual 239, 2, 0, 5)) (k' := 2) (as := [.ref 47, .int a1, .int a2]) rfl rfl rfl rfl rfl rfl rfl rfl
theorem s_44_84_49 {a1 : Int32} {a2 : Int32} : Go (d + 1) 44 84 L [.int a2, .int a1, .ref 49] (HP lx xs M) Q = Go d 2 0 [some (.ref 49), some (.int a1), some (.int a2)] [] (HP lx xs M) (fun v h2 => Go (d + 1) 44 87 L (ap v []) h2 Q) := go_cx (E := (.invokevirtual 239, 2, 0, 5)) (k' := 2) (as := [.ref 49, .int a1, .int a2]) rfl rfl rfl rfl rfl rfl rfl rfl
theorem s_44_84_51 {a1 : Int32} {a2 : Int32} : Go (d + 1) 44 84 L [.int a2, .int a1, .ref 51] (HP lx xs M) Q = Go d 2 0 [some (.ref 51), some (.int a1), some (.int a2)] [] (HP lx xs M) (fun v h2 => Go (d + 1) 44 87 L (ap v []) h2 Q) := go_cx (E := (.invokevirtual 239, 2, 0, 5)) (k' := 2) (as := [.ref 51, .int a1, .int a2]) rfl rfl rfl rfl rfl rfl rfl rfl
theorem s_44_87 : Go d 44 87 L (.int x :: st) h Q = (if x = 0 then Go d 44 90 L st h Q else Go d 44 93 L st h Q) := go_ifne rfl
theorem s_44_90 : Go d 44 90 L (st) h Q = Go d 44 92 L (.int (-13) :: st) h Q := go_bi rfl ci_bm13
theorem s_44_92 : Go d 44 92 L [.int x] h Q = Q (some (.int x)) h := go_ri rfl rfl
theorem s_44_93 : Go d 44 93 [o0, o1, o2, o3, o4, o5, some (.ref r), o7] (st) h Q = Go d 44 95 [o0, o1, o2, o3, o4, o5, some (.ref r), o7] (.ref r :: st) h Q := go_lo (E := (.aload 6, 0, 0, 0)) rfl rfl rfl
theorem s_44_95_45 : Go d 44 95 L (.ref 45 :: st) (HP lx xs M) Q = Go d 44 98 L (.ref 46 :: st) (HP lx xs M) Q := go_gf rfl rfl (by decide) rfl
theorem s_44_95_47 : Go d 44 95 L (.ref 47 :: st) (HP lx xs M) Q = Go d 44 98 L (.ref 48 :: st) (HP lx xs M) Q := go_gf rfl rfl (by decide) rfl
theorem s_44_95_49 : Go d 44 95 L (.ref 49 :: st) (HP lx xs M) Q = Go d 44 98 L (.ref 50 :: st) (HP lx xs M) Q := go_gf rfl rfl (by decide) rfl
theorem s_44_95_51 : Go d 44 95 L (.ref 51 :: st) (HP lx xs M) Q = Go d 44 98 L (.ref 52 :: st) (HP lx xs M) Q := go_gf rfl rfl (by decide) rfl
theorem s_44_98 : Go d 44 98 [o0, o1, some (.int x), o3, o4, o5, o6, o7] (st) h Q = Go d 44 99 [o0, o1, some (.int x), o3, o4, o5, o6, o7] (.int x :: st) h Q := go_lo (E := (.iload_n 2, 0, 0, 0)) rfl rfl rfl
theorem s_44_99 : Go d 44 99 [o0, o1, o2, o3, o4, o5, o6, some (.ref r)] (st) h Q = Go d 44 101 [o0, o1, o2, o3, o4, o5, o6, some (.ref r)] (.ref r :: st) h Q := go_lo (E := (.aload 7, 0, 0, 0)) rfl rfl rfl
theorem s_44_101_45 : Go d 44 101 L (.ref 45 :: st) (HP lx xs M) Q = Go d 44 104 L (.ref 46 :: st) (HP lx xs M) Q := go_gf rfl rfl (by decide) rfl
theorem s_44_101_47 : Go d 44 101 L (.ref 47 :: st) (HP lx xs M) Q = Go d 44 104 L (.ref 48 :: st) (HP lx xs M) Q := go_gf rfl rfl (by decide) rfl
theorem s_44_101_49 : Go d 44 101 L (.ref 49 :: st) (HP lx xs M) Q = Go d 44 104 L (.ref 50 :: st) (HP lx xs M) Q := go_gf rfl rfl (by decide) rfl
theorem s_44_101_51 : Go d 44 101 L (.ref 51 :: st) (HP lx xs M) Q = Go d 44 104 L (.ref 52 :: st) (HP lx xs M) Q := go_gf rfl rfl (by decide) rfl
theorem s_44_104 : Go d 44 104 [o0, o1, o2, o3, some (.int x), o5, o6, o7] (st) h Q = Go d 44 106 [o0, o1, o2, o3, some (.int x), o5, o6, o7] (.int x :: st) h Q := go_lo (E := (.iload 4, 0, 0, 0)) rfl rfl rfl
theorem s_44_106 : Go d 44 106 [o0, o1, o2, o3, o4, some (.int x), o6, o7] (st) h Q = Go d 44 108 [o0, o1, o2, o3, o4, some (.int x), o6, o7] (.int x :: st) h Q := go_lo (E := (.iload 5, 0, 0, 0)) rfl rfl rfl
theorem s_44_111 : Go d 44 111 [o0, o1, o2, o3, o4, some (.int x), o6, o7] (st) h Q = Go d 44 113 [o0, o1, o2, o3, o4, some (.int x), o6, o7] (.int x :: st) h Q := go_lo (E := (.iload 5, 0, 0, 0)) rfl rfl rfl
theorem s_44_113 : Go d 44 113 L [.int x] h Q = Q (some (.int x)) h := go_ri rfl rfl
theorem s_45_0 : Go d 45 0 [some (.int x)] (st) h Q = Go d 45 1 [some (.int x)] (.int x :: st) h Q := go_lo (E := (.iload_n 0, 0, 0, 0)) rfl rfl rfl
theorem s_45_1 : Go d 45 1 L (.int x :: st) h Q = (if x < 0 then Go d 45 13 L st h Q else Go d 45 4 L st h Q) := go_iflt rfl
theorem s_45_4 : Go d 45 4 [some (.int x)] (st) h Q = Go d 45 5 [some (.int x)] (.int x :: st) h Q := go_lo (E := (.iload_n 0, 0, 0, 0)) rfl rfl rfl
theorem s_45_5 : Go d 45 5 L (st) h Q = Go d 45 6 L (.int (nI 4) :: st) h Q := go_ic rfl ci_i4
theorem s_45_6 : Go d 45 6 L (.int y :: .int x :: st) h Q = (if x < y then Go d 45 9 L st h Q else Go d 45 13 L st h Q) := go_icge rfl
theorem s_45_9 : Go d 45 9 L (st) h Q = Go d 45 10 L (.int (nI 1) :: st) h Q := go_ic rfl ci_i1
theorem s_45_10 : Go d 45 10 L (st) h Q = Go d 45 14 L (st) h Q := go_goto rfl
theorem s_45_13 : Go d 45 13 L (st) h Q = Go d 45 14 L (.int (nI 0) :: st) h Q := go_ic rfl ci_i0
theorem s_45_14_0 : Go d 45 14 L [.int (nI 0)] h Q = Q (some (.int (nI 0))) h := go_rz rfl rfl (by decide)
theorem s_45_14_1 : Go d 45 14 L [.int (nI 1)] h Q = Q (some (.int (nI 1))) h := go_rz rfl rfl (by decide)
theorem s_46_0 : Go d 46 0 [some (.int x)] (st) h Q = Go d 46 1 [some (.int x)] (.int x :: st) h Q := go_lo (E := (.iload_n 0, 0, 0, 0)) rfl rfl rfl
theorem s_46_1 : Go d 46 1 L (.int x :: st) h Q = (if x < 0 then Go d 46 14 L st h Q else Go d 46 4 L st h Q) := go_iflt rfl
theorem s_46_4 : Go d 46 4 [some (.int x)] (st) h Q = Go d 46 5 [some (.int x)] (.int x :: st) h Q := go_lo (E := (.iload_n 0, 0, 0, 0)) rfl rfl rfl
theorem s_46_5 : Go d 46 5 L (st) h Q = Go d 46 7 L (.int (nI 15) :: st) h Q := go_bi rfl ci_b15
theorem s_46_7 : Go d 46 7 L (.int y :: .int x :: st) h Q = (if y < x then Go d 46 14 L st h Q else Go d 46 10 L st h Q) := go_icgt rfl
theorem s_46_10 : Go d 46 10 L (st) h Q = Go d 46 11 L (.int (nI 1) :: st) h Q := go_ic rfl ci_i1
theorem s_46_11 : Go d 46 11 L (st) h Q = Go d 46 15 L (st) h Q := go_goto rfl
theorem s_46_14 : Go d 46 14 L (st) h Q = Go d 46 15 L (.int (nI 0) :: st) h Q := go_ic rfl ci_i0
theorem s_46_15_0 : Go d 46 15 L [.int (nI 0)] h Q = Q (some (.int (nI 0))) h := go_rz rfl rfl (by decide)
theorem s_46_15_1 : Go d 46 15 L [.int (nI 1)] h Q = Q (some (.int (nI 1))) h := go_rz rfl rfl (by decide)
theorem s_47_0 : Go d 47 0 [some (.int x)] (st) h Q = Go d 47 1 [some (.int x)] (.int x :: st) h Q := go_lo (E := (.iload_n 0, 0, 0, 0)) rfl rfl rfl
theorem s_47_1 : Go d 47 1 L (.int x :: st) h Q = (if x < 0 then Go d 47 13 L st h Q else Go d 47 4 L st h Q) := go_iflt rfl
theorem s_47_4 : Go d 47 4 [some (.int x)] (st) h Q = Go d 47 5 [some (.int x)] (.int x :: st) h Q := go_lo (E := (.iload_n 0, 0, 0, 0)) rfl rfl rfl
theorem s_47_5 : Go d 47 5 L (st) h Q = Go d 47 6 L (.int (nI 4) :: st) h Q := go_ic rfl ci_i4
theorem s_47_6 : Go d 47 6 L (.int y :: .int x :: st) h Q = (if x < y then Go d 47 9 L st h Q else Go d 47 13 L st h Q) := go_icge rfl
theorem s_47_9 : Go d 47 9 L (st) h Q = Go d 47 10 L (.int (nI 1) :: st) h Q := go_ic rfl ci_i1
theorem s_47_10 : Go d 47 10 L (st) h Q = Go d 47 14 L (st) h Q := go_goto rfl
theorem s_47_13 : Go d 47 13 L (st) h Q = Go d 47 14 L (.int (nI 0) :: st) h Q := go_ic rfl ci_i0
theorem s_47_14_0 : Go d 47 14 L [.int (nI 0)] h Q = Q (some (.int (nI 0))) h := go_rz rfl rfl (by decide)
theorem s_47_14_1 : Go d 47 14 L [.int (nI 1)] h Q = Q (some (.int (nI 1))) h := go_rz rfl rfl (by decide)
theorem s_48_0 : Go d 48 0 [some (.int x)] (st) h Q = Go d 48 1 [some (.int x)] (.int x :: st) h Q := go_lo (E := (.iload_n 0, 0, 0, 0)) rfl rfl rfl
theorem s_48_1 : Go d 48 1 L (.int x :: st) h Q = (if x < 0 then Go d 48 13 L st h Q else Go d 48 4 L st h Q) := go_iflt rfl
theorem s_48_4 : Go d 48 4 [some (.int x)] (st) h Q = Go d 48 5 [some (.int x)] (.int x :: st) h Q := go_lo (E := (.iload_n 0, 0, 0, 0)) rfl rfl rfl
theorem s_48_5 : Go d 48 5 L (st) h Q = Go d 48 6 L (.int (nI 3) :: st) h Q := go_ic rfl ci_i3
theorem s_48_6 : Go d 48 6 L (.int y :: .int x :: st) h Q = (if x < y then Go d 48 9 L st h Q else Go d 48 13 L st h Q) := go_icge rfl
theorem s_48_9 : Go d 48 9 L (st) h Q = Go d 48 10 L (.int (nI 1) :: st) h Q := go_ic rfl ci_i1
theorem s_48_10 : Go d 48 10 L (st) h Q = Go d 48 14 L (st) h Q := go_goto rfl
theorem s_48_13 : Go d 48 13 L (st) h Q = Go d 48 14 L (.int (nI 0) :: st) h Q := go_ic rfl ci_i0
theorem s_48_14_0 : Go d 48 14 L [.int (nI 0)] h Q = Q (some (.int (nI 0))) h := go_rz rfl rfl (by decide)
theorem s_48_14_1 : Go d 48 14 L [.int (nI 1)] h Q = Q (some (.int (nI 1))) h := go_rz rfl rfl (by decide)
theorem s_49_0 : Go d 49 0 [some (.int x), o1] (st) h Q = Go d 49 1 [some (.int x), o1] (.int x :: st) h Q := go_lo (E := (.iload_n 0, 0, 0, 0)) rfl rfl rfl
theorem s_49_1 : Go d 49 1 [o0, some (.int x)] (st) h Q = Go d 49 2 [o0, some (.int x)] (.int x :: st) h Q := go_lo (E := (.iload_n 1, 0, 0, 0)) rfl rfl rfl
theorem s_49_2 : Go d 49 2 L (.int y :: .int x :: st) h Q = Go d 49 3 L (.int (x >>> (y &&& 31)) :: st) h Q := go_op (E := (.ishr, 0, 0, 0)) rfl rfl
theorem s_49_3 : Go d 49 3 L (st) h Q = Go d 49 4 L (.int (nI 1) :: st) h Q := go_ic rfl ci_i1
theorem s_49_4 : Go d 49 4 L (.int y :: .int x :: st) h Q = Go d 49 5 L (.int (x &&& y) :: st) h Q := go_op (E := (.iand, 0, 0, 0)) rfl rfl
theorem s_49_5 : Go d 49 5 L (.int x :: st) h Q = (if x = 0 then Go d 49 12 L st h Q else Go d 49 8 L st h Q) := go_ifeq rfl
theorem s_49_8 : Go d 49 8 L (st) h Q = Go d 49 9 L (.int (nI 1) :: st) h Q := go_ic rfl ci_i1
theorem s_49_9 : Go d 49 9 L (st) h Q = Go d 49 13 L (st) h Q := go_goto rfl
theorem s_49_12 : Go d 49 12 L (st) h Q = Go d 49 13 L (.int (nI 0) :: st) h Q := go_ic rfl ci_i0
theorem s_49_13_0 : Go d 49 13 L [.int (nI 0)] h Q = Q (some (.int (nI 0))) h := go_rz rfl rfl (by decide)
theorem s_49_13_1 : Go d 49 13 L [.int (nI 1)] h Q = Q (some (.int (nI 1))) h := go_rz rfl rfl (by decide)
theorem s_50_0 : Go d 50 0 [some (.int x), o1] (st) h Q = Go d 50 1 [some (.int x), o1] (.int x :: st) h Q := go_lo (E := (.iload_n 0, 0, 0, 0)) rfl rfl rfl
theorem s_50_1_0 : Go d 50 1 L (.int (nI 0) :: st) h Q = Go d 50 52 L (st) h Q := go_td rfl (by decide +kernel) (by decide +kernel)
theorem s_50_1_1 : Go d 50 1 L (.int (nI 1) :: st) h Q = Go d 50 28 L (st) h Q := go_ts (i := 1) (off := 27) rfl (by decide +kernel) (by decide +kernel) rfl (by decide +kernel)
theorem s_50_1_2 : Go d 50 1 L (.int (nI 2) :: st) h Q = Go d 50 35 L (st) h Q := go_ts (i := 2) (off := 34) rfl (by decide +kernel) (by decide +kernel) rfl (by decide +kernel)
theorem s_50_1_3 : Go d 50 1 L (.int (nI 3) :: st) h Q = Go d 50 42 L (st) h Q := go_ts (i := 3) (off := 41) rfl (by decide +kernel) (by decide +kernel) rfl (by decide +kernel)
theorem s_50_1_4 : Go d 50 1 L (.int (nI 4) :: st) h Q = Go d 50 52 L (st) h Q := go_td rfl (by decide +kernel) (by decide +kernel)
theorem s_50_1_5 : Go d 50 1 L (.int (nI 5) :: st) h Q = Go d 50 52 L (st) h Q := go_td rfl (by decide +kernel) (by decide +kernel)
theorem s_50_1_6 : Go d 50 1 L (.int (nI 6) :: st) h Q = Go d 50 52 L (st) h Q := go_td rfl (by decide +kernel) (by decide +kernel)
theorem s_50_1_7 : Go d 50 1 L (.int (nI 7) :: st) h Q = Go d 50 52 L (st) h Q := go_td rfl (by decide +kernel) (by decide +kernel)
theorem s_50_1_8 : Go d 50 1 L (.int (nI 8) :: st) h Q = Go d 50 52 L (st) h Q := go_td rfl (by decide +kernel) (by decide +kernel)
theorem s_50_1_9 : Go d 50 1 L (.int (nI 9) :: st) h Q = Go d 50 52 L (st) h Q := go_td rfl (by decide +kernel) (by decide +kernel)
theorem sd_50_1 (hx : x.toInt < 1 ∨ 3 < x.toInt) : Go d 50 1 L (.int x :: st) h Q = Go d 50 52 L st h Q := go_td rfl hx (by decide +kernel)
theorem s_50_28 : Go d 50 28 [o0, some (.int x)] (st) h Q = Go d 50 29 [o0, some (.int x)] (.int x :: st) h Q := go_lo (E := (.iload_n 1, 0, 0, 0)) rfl rfl rfl
theorem s_50_29 : Go d 50 29 L (st) h Q = Go d 50 30 L (.int (nI 1) :: st) h Q := go_ic rfl ci_i1
theorem s_50_30 : Go d 50 30 L (.int y :: .int x :: st) h Q = Go d 50 31 L (.int (x + y) :: st) h Q := go_op (E := (.iadd, 0, 0, 0)) rfl rfl
theorem s_50_31 : Go d 50 31 L (st) h Q = Go d 50 33 L (.int (nI 97) :: st) h Q := go_bi rfl ci_b97
theorem s_50_33 : Go d 50 33 L (.int y :: .int x :: st) h Q = (¬ y = 0 ∧ Go d 50 34 L (.int (x - x / y * y) :: st) h Q) := go_irm rfl
theorem s_50_34 : Go d 50 34 L [.int x] h Q = Q (some (.int x)) h := go_ri rfl rfl
theorem s_50_35 : Go d 50 35 L (st) h Q = Go d 50 36 L (.int (nI 2) :: st) h Q := go_ic rfl ci_i2
theorem s_50_36 : Go d 50 36 [o0, some (.int x)] (st) h Q = Go d 50 37 [o0, some (.int x)] (.int x :: st) h Q := go_lo (E := (.iload_n 1, 0, 0, 0)) rfl rfl rfl
theorem s_50_37 : Go d 50 37 L (.int y :: .int x :: st) h Q = Go d 50 38 L (.int (x * y) :: st) h Q := go_op (E := (.imul, 0, 0, 0)) rfl rfl
theorem s_50_38 : Go d 50 38 L (st) h Q = Go d 50 40 L (.int (nI 97) :: st) h Q := go_bi rfl ci_b97
theorem s_50_40 : Go d 50 40 L (.int y :: .int x :: st) h Q = (¬ y = 0 ∧ Go d 50 41 L (.int (x - x / y * y) :: st) h Q) := go_irm rfl
theorem s_50_41 : Go d 50 41 L [.int x] h Q = Q (some (.int x)) h := go_ri rfl rfl
theorem s_50_42 : Go d 50 42 L (st) h Q = Go d 50 44 L (.int (nI 96) :: st) h Q := go_bi rfl ci_b96
theorem s_50_44 : Go d 50 44 [o0, some (.int x)] (st) h Q = Go d 50 45 [o0, some (.int x)] (.int x :: st) h Q := go_lo (E := (.iload_n 1, 0, 0, 0)) rfl rfl rfl
theorem s_50_45 : Go d 50 45 L (st) h Q = Go d 50 46 L (.int (nI 1) :: st) h Q := go_ic rfl ci_i1
theorem s_50_46 : Go d 50 46 L (.int y :: .int x :: st) h Q = Go d 50 47 L (.int (x + y) :: st) h Q := go_op (E := (.iadd, 0, 0, 0)) rfl rfl
theorem s_50_47 : Go d 50 47 L (st) h Q = Go d 50 49 L (.int (nI 97) :: st) h Q := go_bi rfl ci_b97
theorem s_50_49 : Go d 50 49 L (.int y :: .int x :: st) h Q = (¬ y = 0 ∧ Go d 50 50 L (.int (x - x / y * y) :: st) h Q) := go_irm rfl
theorem s_50_50 : Go d 50 50 L (.int y :: .int x :: st) h Q = Go d 50 51 L (.int (x - y) :: st) h Q := go_op (E := (.isub, 0, 0, 0)) rfl rfl
theorem s_50_51 : Go d 50 51 L [.int x] h Q = Q (some (.int x)) h := go_ri rfl rfl
theorem s_50_52 : Go d 50 52 [o0, some (.int x)] (st) h Q = Go d 50 53 [o0, some (.int x)] (.int x :: st) h Q := go_lo (E := (.iload_n 1, 0, 0, 0)) rfl rfl rfl
theorem s_50_53 : Go d 50 53 L [.int x] h Q = Q (some (.int x)) h := go_ri rfl rfl
theorem s_51_0 : Go d 51 0 [some (.int x), o1, o2] (st) h Q = Go d 51 1 [some (.int x), o1, o2] (.int x :: st) h Q := go_lo (E := (.iload_n 0, 0, 0, 0)) rfl rfl rfl
theorem s_51_1 : Go d 51 1 L (st) h Q = Go d 51 3 L (.int (nI 6) :: st) h Q := go_bi rfl ci_b6
theorem s_51_3 : Go d 51 3 L (.int y :: .int x :: st) h Q = Go d 51 4 L (.int (x * y) :: st) h Q := go_op (E := (.imul, 0, 0, 0)) rfl rfl
theorem s_51_4 : Go d 51 4 [o0, some (.int x), o2] (st) h Q = Go d 51 5 [o0, some (.int x), o2] (.int x :: st) h Q := go_lo (E := (.iload_n 1, 0, 0, 0)) rfl rfl rfl
theorem s_51_5 : Go d 51 5 L (.int y :: .int x :: st) h Q = Go d 51 6 L (.int (x + y) :: st) h Q := go_op (E := (.iadd, 0, 0, 0)) rfl rfl
theorem s_51_6 : Go d 51 6 L (st) h Q = Go d 51 7 L (.int (nI 4) :: st) h Q := go_ic rfl ci_i4
theorem s_51_7 : Go d 51 7 L (.int y :: .int x :: st) h Q = Go d 51 8 L (.int (x * y) :: st) h Q := go_op (E := (.imul, 0, 0, 0)) rfl rfl
theorem s_51_8 : Go d 51 8 [o0, o1, some (.int x)] (st) h Q = Go d 51 9 [o0, o1, some (.int x)] (.int x :: st) h Q := go_lo (E := (.iload_n 2, 0, 0, 0)) rfl rfl rfl
theorem s_51_9 : Go d 51 9 L (.int y :: .int x :: st) h Q = Go d 51 10 L (.int (x + y) :: st) h Q := go_op (E := (.iadd, 0, 0, 0)) rfl rfl
theorem s_51_10 : Go d 51 10 L [.int x] h Q = Q (some (.int x)) h := go_ri rfl rfl
theorem s_52_0 : Go d 52 0 [some (.int x)] (st) h Q = Go d 52 1 [some (.int x)] (.int x :: st) h Q := go_lo (E := (.iload_n 0, 0, 0, 0)) rfl rfl rfl
theorem s_52_1 : Go d 52 1 L (st) h Q = Go d 52 3 L (.int (nI 24) :: st) h Q := go_bi rfl ci_b24
theorem s_52_3 : Go d 52 3 L (.int y :: .int x :: st) h Q = (¬ y = 0 ∧ Go d 52 4 L (.int (x / y) :: st) h Q) := go_idv rfl
theorem s_52_4 : Go d 52 4 L [.int x] h Q = Q (some (.int x)) h := go_ri rfl rfl
theorem s_53_0 : Go d 53 0 [some (.int x)] (st) h Q = Go d 53 1 [some (.int x)] (.int x :: st) h Q := go_lo (E := (.iload_n 0, 0, 0, 0)) rfl rfl rfl
theorem s_53_1 : Go d 53 1 L (st) h Q = Go d 53 2 L (.int (nI 4) :: st) h Q := go_ic rfl ci_i4
theorem s_53_2 : Go d 53 2 L (.int y :: .int x :: st) h Q = (¬ y = 0 ∧ Go d 53 3 L (.int (x / y) :: st) h Q) := go_idv rfl
theorem s_53_3 : Go d 53 3 L (st) h Q = Go d 53 5 L (.int (nI 6) :: st) h Q := go_bi rfl ci_b6
theorem s_53_5 : Go d 53 5 L (.int y :: .int x :: st) h Q = (¬ y = 0 ∧ Go d 53 6 L (.int (x - x / y * y) :: st) h Q) := go_irm rfl
theorem s_53_6 : Go d 53 6 L [.int x] h Q = Q (some (.int x)) h := go_ri rfl rfl
theorem s_54_0 : Go d 54 0 [some (.int x)] (st) h Q = Go d 54 1 [some (.int x)] (.int x :: st) h Q := go_lo (E := (.iload_n 0, 0, 0, 0)) rfl rfl rfl
theorem s_54_1 : Go d 54 1 L (st) h Q = Go d 54 2 L (.int (nI 4) :: st) h Q := go_ic rfl ci_i4
theorem s_54_2 : Go d 54 2 L (.int y :: .int x :: st) h Q = (¬ y = 0 ∧ Go d 54 3 L (.int (x - x / y * y) :: st) h Q) := go_irm rfl
theorem s_54_3 : Go d 54 3 L [.int x] h Q = Q (some (.int x)) h := go_ri rfl rfl
theorem s_55_0 : Go d 55 0 L (st) h Q = Go d 55 1 L (.int (nI 1) :: st) h Q := go_ic rfl ci_i1
theorem s_55_1 : Go d 55 1 [some (.int x)] (st) h Q = Go d 55 2 [some (.int x)] (.int x :: st) h Q := go_lo (E := (.iload_n 0, 0, 0, 0)) rfl rfl rfl
theorem s_55_2 {a0 : Int32} {z0 : Int32} : Go (d + 1) 55 2 L [.int a0, .int z0] h Q = Go d 52 0 [some (.int a0)] [] h (fun v h2 => Go (d + 1) 55 5 L (ap v [.int z0]) h2 Q) := go_cx (E := (.invokestatic 248, 52, 0, 0)) (k' := 52) (as := [.int a0]) rfl rfl rfl rfl rfl rfl rfl rfl
theorem s_55_5 : Go d 55 5 L (.int y :: .int x :: st) h Q = Go d 55 6 L (.int (x <<< (y &&& 31)) :: st) h Q := go_op (E := (.ishl, 0, 0, 0)) rfl rfl
theorem s_55_6 : Go d 55 6 L (st) h Q = Go d 55 7 L (.int (nI 1) :: st) h Q := go_ic rfl ci_i1
theorem s_55_7 : Go d 55 7 [some (.int x)] (st) h Q = Go d 55 8 [some (.int x)] (.int x :: st) h Q := go_lo (E := (.iload_n 0, 0, 0, 0)) rfl rfl rfl
theorem s_55_8 {a0 : Int32} {z0 : Int32} {z1 : Int32} : Go (d + 1) 55 8 L [.int a0, .int z1, .int z0] h Q = Go d 53 0 [some (.int a0)] [] h (fun v h2 => Go (d + 1) 55 11 L (ap v [.int z1, .int z0]) h2 Q) := go_cx (E := (.invokestatic 251, 53, 0, 0)) (k' := 53) (as := [.int a0]) rfl rfl rfl rfl rfl rfl rfl rfl
theorem s_55_11 : Go d 55 11 L (.int y :: .int x :: st) h Q = Go d 55 12 L (.int (x <<< (y &&& 31)) :: st) h Q := go_op (E := (.ishl, 0, 0, 0)) rfl rfl
theorem s_55_12 : Go d 55 12 L (.int y :: .int x :: st) h Q = Go d 55 13 L (.int (x ||| y) :: st) h Q := go_op (E := (.ior, 0, 0, 0)) rfl rfl
theorem s_55_13 : Go d 55 13 L [.int x] h Q = Q (some (.int x)) h := go_ri rfl rfl
end SL
