/-! more small methods -/
theorem tb_lt {a i n : Nat} (h : a < 2 ^ n) (hi : a.testBit i = true) : i < n := by
  refine Nat.not_le.mp fun hle => ?_
  have h1 : 2 ^ n ≤ 2 ^ i := Nat.pow_le_pow_right (by decide) hle
  rw [Nat.testBit_lt_two_pow (by omega)] at hi
  cases hi
section SN
variable {d : Nat} {Q : Option Value → ex_H → Prop} {h : ex_H} {lx : Nat} {xs : Nat → Int32} {M : Nat → Nat → Int32} {x y z : Int32} {u v w : Int64} {a b c j k n t q : Nat}
theorem c_X7_isThing : Go (d + 1) 117 0 [some (.int x)] [] h Q = Q (some (.int (bI (isr x 4)))) h := by
  simp only [s_117_0, s_117_1, s_117_2, s_117_3, s_117_6, s_117_9_0, s_117_9_1, sb_117_9, c_X7_in, ap_some]
  congr 4
  rw [Bool.eq_iff_iff]
  simp only [isr, Bool.and_eq_true, Bool.not_eq_true', decide_eq_true_eq, decide_eq_false_iff_not, Int32.toInt_toInt64]
  rw [lN_toInt (by decide : 0 < 2 ^ 31), lN_toInt (by decide : 3 < 2 ^ 31)]
  omega
theorem i_pre {n : Nat} (hn : n < 1000000) : (nI n - nI 1).toInt = (n : Int) - 1 := pk_sub_toInt (by omega : n < 2 ^ 30) (by omega : 1 < 2 ^ 30)
theorem c_X7_isChild (hn : n ≤ 6) (h0 : M 53 4 = nI n) : Go (d + 1) 116 0 [some (.ref 53), some (.int x)] [] (HP lx xs M) Q = Q (some (.int (bI (isr x n)))) (HP lx xs M) := by
  simp only [s_116_0, s_116_1, s_116_2, s_116_3, s_116_4, s_116_7, s_116_8, s_116_9, s_116_10, s_116_13_0, s_116_13_1, sb_116_13, c_X7_in, ap_some, h0]
  congr 4
  rw [Bool.eq_iff_iff]
  simp only [isr, Bool.and_eq_true, Bool.not_eq_true', decide_eq_true_eq, decide_eq_false_iff_not, Int32.toInt_toInt64]
  rw [lN_toInt (by decide : 0 < 2 ^ 31), i_pre (by omega)]
  omega
theorem c_X7_areTwo (hn : n ≤ 6) (h0 : M 53 4 = nI n) : Go (d + 2) 118 0 [some (.ref 53), some (.int x), some (.int y)] [] (HP lx xs M) Q = Q (some (.int (bI (isr x n && (isr y n && !decide (x = y)))))) (HP lx xs M) := by
  simp only [s_118_0, s_118_1, s_118_2, s_118_5, s_118_8, s_118_9, s_118_10, s_118_13, s_118_16, s_118_17, s_118_18, s_118_21, s_118_22, s_118_25, s_118_26_0, s_118_26_1, sb_118_26, c_X7_isChild hn h0, ap_some, bI_0, q_ite, q_01, q_0b, q_bf]
theorem c_X7_isSheet : Go (d + 1) 163 0 [some (.int x), some (.int y)] [] h Q = Q (some (.int (bI (isr x 4 && isr y 3)))) h := by
  simp only [s_163_0, s_163_1, s_163_2, s_163_3, s_163_6, s_163_9, s_163_12, s_163_13, s_163_14, s_163_15, s_163_18, s_163_21, s_163_24, s_163_25, s_163_28, s_163_29_0, s_163_29_1, sb_163_29, c_X7_in, ap_some, bI_0, q_ite, q_01, q_0b, q_bf]
  congr 4
  rw [Bool.eq_iff_iff]
  simp only [isr, Bool.and_eq_true, Bool.not_eq_true', decide_eq_true_eq, decide_eq_false_iff_not, Int32.toInt_toInt64, Bool.decide_eq_false, Bool.not_not]
  rw [lN_toInt (by decide : 0 < 2 ^ 31), lN_toInt (by decide : 3 < 2 ^ 31), lN_toInt (by decide : 2 < 2 ^ 31)]
  omega
theorem c_X3_isChild (hn : n ≤ 6) (h0 : M 2 0 = nI n) : Go d 57 0 [some (.ref 2), some (.int x)] [] (HP lx xs M) Q = Q (some (.int (bI (isr x n)))) (HP lx xs M) := by
  simp only [s_57_0, s_57_1, s_57_4, s_57_5, s_57_6, s_57_9, s_57_12, s_57_13, s_57_16, s_57_17_0, s_57_17_1, sb_57_17, h0, q_ite, q_10, q_0b, x_l0, x_ln x (by omega : n < 2147483648)]
  congr 4
  rw [Bool.eq_iff_iff]
  simp only [isr, Bool.and_eq_true, Bool.not_eq_true', decide_eq_true_eq, decide_eq_false_iff_not]
  omega
theorem c_X3_isTeaching (hn : n ≤ 6) (h0 : M 2 0 = nI n) : Go (d + 1) 58 0 [some (.ref 2), some (.int x), some (.int y), some (.int z)] [] (HP lx xs M) Q = Q (some (.int (bI (isr x n && (isr y n && (isr z 4 && !decide (x = y))))))) (HP lx xs M) := by
  simp only [s_58_0, s_58_1, s_58_2, s_58_5, s_58_8, s_58_9, s_58_10, s_58_13, s_58_16, s_58_17, s_58_20, s_58_23, s_58_24, s_58_25, s_58_28, s_58_29, s_58_32, s_58_33_0, s_58_33_1, sb_58_33, c_X3_isChild hn h0, c_X6_isThing, ap_some, bI_0, q_ite, q_01, q_0b, q_bf]
theorem c_X3_saying (hc : c < 6) (ht : t < 4) : Go d 59 0 [some (.ref 2), some (.int (nI c)), some (.int (nI t))] [] (HP lx xs M) Q = Q (some (.int (M 4 (c * 4 + t)))) (HP lx xs M) := by
  simp (disch := omega) only [s_59_0, s_59_1, s_59_4, s_59_5, s_59_6, s_59_7, s_59_8, s_59_9, s_59_10, i_add, i_mul, i_in, i_cl, true_and]
/-- a child says a thing so: 97 is that it does not know it -/
theorem c_X3_setSaying (hc : c < 6) (ht : t < 4) (hv : k ≤ 97) (hb : a < 16) (hk : M 5 c = nI a) : Go d 60 0 [some (.ref 2), some (.int (nI c)), some (.int (nI t)), some (.int (nI k))] [] (HP lx xs M) Q = Q none (HP lx xs (up (up M 4 (c * 4 + t) (nI k)) 5 c (nI (if k = 97 then wo a (2 ^ t) else a ||| 2 ^ t)))) := by
  simp (disch := omega) only [s_60_0, s_60_1, s_60_4, s_60_5, s_60_6, s_60_7, s_60_8, s_60_9, s_60_10, s_60_11, s_60_12, s_60_14, s_60_17, s_60_18, s_60_21, s_60_22, s_60_23, s_60_24, s_60_25, s_60_26, s_60_27, s_60_28, s_60_29, s_60_30, s_60_31, s_60_34, s_60_35, s_60_38, s_60_39, s_60_40, s_60_41, s_60_42, s_60_43, s_60_44, s_60_45, s_60_46, i_add, i_mul, i_in, i_cl, true_and, i_eq, up_ne, i_1s, hk, i_wo, i_or]
  split <;> rfl
theorem c_X3_allows_5 {A B N Hd : Nat} (hq : q < 144) (h1 : M 5 (q / 24) = nI A) (h2 : M 5 (q / 4 % 6) = nI B) (h3 : M 7 (q % 4) = nI N) (h4 : M 6 (q / 4 % 6) = nI Hd) (bA : A < 64) (bB : B < 64) (bN : N < 64) (bH : Hd < 64) : Go (d + 1) 67 0 [some (.ref 2), some (.ref 5), some (.int (nI q)), none, none, none] [] (HP lx xs M) Q = Q (some (.int (bI (A.testBit (q % 4) && (!B.testBit (q % 4) && (decide (wo N B = 0) && Hd.testBit (q / 24))))))) (HP lx xs M) := by
  have hw : wo N B < 2147483648 := by have := wo_le N B; omega
  simp (disch := omega) only [s_67_0, s_67_1, s_67_4, s_67_5, s_67_6, s_67_9, s_67_11, s_67_12, s_67_15, s_67_17, s_67_18, s_67_19_5, s_67_19_11, s_67_19_12, s_67_20, s_67_22, s_67_25, s_67_28, s_67_29, s_67_31_5, s_67_31_11, s_67_31_12, s_67_32, s_67_34, s_67_37, s_67_40, s_67_41, s_67_44, s_67_46, s_67_47, s_67_48, s_67_50_5, s_67_50_11, s_67_50_12, s_67_51, s_67_52, s_67_53, s_67_54, s_67_57, s_67_58, s_67_61, s_67_63, s_67_64, s_67_65, s_67_68, s_67_71, s_67_72, s_67_75, s_67_76_0, s_67_76_1, sb_67_76, c_X6_has, c_X6_teacherOf, c_X6_pupilOf, c_X6_thingOf, ap_some, i_in, i_cl, true_and, h1, h2, h3, h4, bI_0, i_wo, i_e0, q_ite, q_01, q_0b, q_b0, q_bf, Bool.decide_eq_false, Bool.not_not]
end SN
