/-! contracts of the small methods -/
section SM
variable {d : Nat} {Q : Option Value → ex_H → Prop} {h : ex_H} {lx : Nat} {xs : Nat → Int32} {M : Nat → Nat → Int32} {x y z : Int32} {u v w : Int64} {a b c j k n t : Nat}
theorem c_X6_has (ha : a < 2147483648) (hj : j < 32) : Go d 49 0 [some (.int (nI a)), some (.int (nI j))] [] h Q = Q (some (.int (bI (a.testBit j)))) h := by
  simp only [s_49_0, s_49_1, s_49_2, s_49_3, s_49_4, s_49_5, s_49_8, s_49_9, s_49_12, s_49_13_0, s_49_13_1, sb_49_13, i_bit ha hj, bI_0, q_ite, q_01, q_bf]
theorem c_X7_has (ha : a < 2147483648) (hj : j < 32) : Go d 115 0 [some (.int (nI a)), some (.int (nI j))] [] h Q = Q (some (.int (bI (a.testBit j)))) h := by
  simp only [s_115_0, s_115_1, s_115_2, s_115_3, s_115_4, s_115_5, s_115_6, s_115_9, s_115_10, s_115_13, s_115_14_0, s_115_14_1, sb_115_14, i_bit ha hj, bI_n1, q_ite, q_10, Bool.decide_eq_true]
theorem c_X6_isThing : Go d 45 0 [some (.int x)] [] h Q = Q (some (.int (bI (isr x 4)))) h := by
  simp only [s_45_0, s_45_1, s_45_4, s_45_5, s_45_6, s_45_9, s_45_10, s_45_13, s_45_14_0, s_45_14_1, sb_45_14, q_ite, q_10, q_0b, x_l0, x_ln x (by decide : 4 < 2147483648)]
  congr 4
  rw [Bool.eq_iff_iff]
  simp only [isr, Bool.and_eq_true, Bool.not_eq_true', decide_eq_true_eq, decide_eq_false_iff_not]
  omega
theorem c_X6_isSet : Go d 46 0 [some (.int x)] [] h Q = Q (some (.int (bI (isr x 16)))) h := by
  simp only [s_46_0, s_46_1, s_46_4, s_46_5, s_46_7, s_46_10, s_46_11, s_46_14, s_46_15_0, s_46_15_1, sb_46_15, q_ite, q_01, q_0b, x_l0, x_nl x (by decide : 15 < 2147483648)]
  congr 4
  rw [Bool.eq_iff_iff]
  simp only [isr, Bool.and_eq_true, Bool.not_eq_true', decide_eq_true_eq, decide_eq_false_iff_not]
  omega
theorem c_X6_isSheet : Go d 47 0 [some (.int x)] [] h Q = Q (some (.int (bI (isr x 4)))) h := by
  simp only [s_47_0, s_47_1, s_47_4, s_47_5, s_47_6, s_47_9, s_47_10, s_47_13, s_47_14_0, s_47_14_1, sb_47_14, q_ite, q_10, q_0b, x_l0, x_ln x (by decide : 4 < 2147483648)]
  congr 4
  rw [Bool.eq_iff_iff]
  simp only [isr, Bool.and_eq_true, Bool.not_eq_true', decide_eq_true_eq, decide_eq_false_iff_not]
  omega
theorem c_X6_isLane : Go d 48 0 [some (.int x)] [] h Q = Q (some (.int (bI (isr x 3)))) h := by
  simp only [s_48_0, s_48_1, s_48_4, s_48_5, s_48_6, s_48_9, s_48_10, s_48_13, s_48_14_0, s_48_14_1, sb_48_14, q_ite, q_10, q_0b, x_l0, x_ln x (by decide : 3 < 2147483648)]
  congr 4
  rw [Bool.eq_iff_iff]
  simp only [isr, Bool.and_eq_true, Bool.not_eq_true', decide_eq_true_eq, decide_eq_false_iff_not]
  omega
theorem c_X7_in : Go d 114 0 [some (.long u), none, some (.long v), none, some (.long w), none] [] h Q = Q (some (.int (bI (decide (v.toInt ≤ u.toInt ∧ u.toInt ≤ w.toInt))))) h := by
  simp only [s_114_0, s_114_1, s_114_2, s_114_3, s_114_6, s_114_7, s_114_9, s_114_10, s_114_13, s_114_14, s_114_17, s_114_18_0, s_114_18_1, sb_114_18, q_ite, q_01, q_0b, lg_cmp_lt, lg_cmp_gt, Int64.lt_iff_toInt_lt]
  congr 4
  rw [Bool.eq_iff_iff]
  simp only [isr, Bool.and_eq_true, Bool.not_eq_true', decide_eq_true_eq, decide_eq_false_iff_not]
  omega
/-- what a pupil says, by the teacher's kind -/
def ps (k v : Nat) : Nat := if k = 1 then (v + 1) % 97 else if k = 2 then 2 * v % 97 else if k = 3 then 96 - (v + 1) % 97 else v
theorem c_X6_passedOn (hk : k < 4) (hv : a < 97) : Go d 50 0 [some (.int (nI k)), some (.int (nI a))] [] h Q = Q (some (.int (nI (ps k a)))) h := by
  have h1 : ¬ nI 97 = 0 := by decide
  have hm := Nat.mod_lt (a + 1) (by decide : 0 < 97)
  rcases (by omega : k = 0 ∨ k = 1 ∨ k = 2 ∨ k = 3) with rfl | rfl | rfl | rfl
  · simp only [s_50_0, s_50_1_0, s_50_1_1, s_50_1_2, s_50_1_3, s_50_1_4, s_50_1_5, s_50_1_6, s_50_1_7, s_50_1_8, s_50_1_9, s_50_28, s_50_29, s_50_30, s_50_31, s_50_33, s_50_34, s_50_35, s_50_36, s_50_37, s_50_38, s_50_40, s_50_41, s_50_42, s_50_44, s_50_45, s_50_46, s_50_47, s_50_49, s_50_50, s_50_51, s_50_52, s_50_53]
    rfl
  · simp only [s_50_0, s_50_1_0, s_50_1_1, s_50_1_2, s_50_1_3, s_50_1_4, s_50_1_5, s_50_1_6, s_50_1_7, s_50_1_8, s_50_1_9, s_50_28, s_50_29, s_50_30, s_50_31, s_50_33, s_50_34, s_50_35, s_50_36, s_50_37, s_50_38, s_50_40, s_50_41, s_50_42, s_50_44, s_50_45, s_50_46, s_50_47, s_50_49, s_50_50, s_50_51, s_50_52, s_50_53, h1, not_false_eq_true, true_and]
    rw [i_add, i_rem (by omega) (by omega) (by omega)]
    rfl
  · simp only [s_50_0, s_50_1_0, s_50_1_1, s_50_1_2, s_50_1_3, s_50_1_4, s_50_1_5, s_50_1_6, s_50_1_7, s_50_1_8, s_50_1_9, s_50_28, s_50_29, s_50_30, s_50_31, s_50_33, s_50_34, s_50_35, s_50_36, s_50_37, s_50_38, s_50_40, s_50_41, s_50_42, s_50_44, s_50_45, s_50_46, s_50_47, s_50_49, s_50_50, s_50_51, s_50_52, s_50_53, h1, not_false_eq_true, true_and]
    rw [i_mul, i_rem (by omega) (by omega) (by omega)]
    rfl
  · simp only [s_50_0, s_50_1_0, s_50_1_1, s_50_1_2, s_50_1_3, s_50_1_4, s_50_1_5, s_50_1_6, s_50_1_7, s_50_1_8, s_50_1_9, s_50_28, s_50_29, s_50_30, s_50_31, s_50_33, s_50_34, s_50_35, s_50_36, s_50_37, s_50_38, s_50_40, s_50_41, s_50_42, s_50_44, s_50_45, s_50_46, s_50_47, s_50_49, s_50_50, s_50_51, s_50_52, s_50_53, h1, not_false_eq_true, true_and]
    rw [i_add, i_rem (by omega) (by omega) (by omega), i_sub (by omega)]
    rfl
theorem c_X7_pass (hk : k < 4) (hv : a < 97) : Go d 126 0 [some (.int (nI k)), some (.int (nI a)), none] [] h Q = Q (some (.int (nI (ps k a)))) h := by
  have h1 : ¬ nI 97 = 0 := by decide
  have hm := Nat.mod_lt (a + 1) (by decide : 0 < 97)
  have h2 : nI 2 * nI a - nI 2 * nI a / nI 97 * nI 97 = nI (2 * a % 97) := by rw [i_mul, i_rem (by omega) (by omega) (by omega)]
  have h3 : nI a + nI 1 - (nI a + nI 1) / nI 97 * nI 97 = nI ((a + 1) % 97) := by rw [i_add, i_rem (by omega) (by omega) (by omega)]
  have h4 : nI 96 - nI ((a + 1) % 97) = nI (96 - (a + 1) % 97) := i_sub (by omega)
  simp only [s_126_0, s_126_1, s_126_2, s_126_5, s_126_6, s_126_7, s_126_8, s_126_10, s_126_11, s_126_12, s_126_13, s_126_14, s_126_15, s_126_17, s_126_18, s_126_19, s_126_20, s_126_21, s_126_24, s_126_25, s_126_28, s_126_29, s_126_30, s_126_33, s_126_35, s_126_36, s_126_37, s_126_40, s_126_41, h1, not_false_eq_true, true_and, h2, h3, h4]
  unfold ps
  rcases (by omega : k = 0 ∨ k = 1 ∨ k = 2 ∨ k = 3) with rfl | rfl | rfl | rfl <;> simp only [i_eq (by decide : 0 < 2147483648) (by decide : 2 < 2147483648), i_eq (by decide : 0 < 2147483648) (by decide : 1 < 2147483648), i_eq (by decide : 0 < 2147483648) (by decide : 3 < 2147483648), i_eq (by decide : 1 < 2147483648) (by decide : 2 < 2147483648), i_eq (by decide : 3 < 2147483648) (by decide : 2 < 2147483648), i_eq (by decide : 3 < 2147483648) (by decide : 1 < 2147483648)] <;> rfl
/-- a teaching as one number -/
theorem c_X6_teaching : Go d 51 0 [some (.int (nI a)), some (.int (nI b)), some (.int (nI t))] [] h Q = Q (some (.int (nI ((a * 6 + b) * 4 + t)))) h := by
  simp only [s_51_0, s_51_1, s_51_3, s_51_4, s_51_5, s_51_6, s_51_7, s_51_8, s_51_9, s_51_10, i_add, i_mul]
theorem c_X6_teacherOf (ha : a < 2147483648) : Go d 52 0 [some (.int (nI a))] [] h Q = Q (some (.int (nI (a / 24)))) h := by
  have h1 : ¬ nI 24 = 0 := by decide
  simp only [s_52_0, s_52_1, s_52_3, s_52_4, h1, not_false_eq_true, true_and]
  rw [i_div ha (by omega) (by omega)]
theorem c_X6_pupilOf (ha : a < 2147483648) : Go d 53 0 [some (.int (nI a))] [] h Q = Q (some (.int (nI (a / 4 % 6)))) h := by
  have h1 : ¬ nI 4 = 0 := by decide
  have h2 : ¬ nI 6 = 0 := by decide
  simp only [s_53_0, s_53_1, s_53_2, s_53_3, s_53_5, s_53_6, h1, h2, not_false_eq_true, true_and]
  rw [i_div ha (by omega) (by omega), i_rem (by omega) (by omega) (by omega)]
theorem c_X6_thingOf (ha : a < 2147483648) : Go d 54 0 [some (.int (nI a))] [] h Q = Q (some (.int (nI (a % 4)))) h := by
  have h1 : ¬ nI 4 = 0 := by decide
  simp only [s_54_0, s_54_1, s_54_2, s_54_3, h1, not_false_eq_true, true_and]
  rw [i_rem ha (by omega) (by omega)]
theorem c_X6_pairOf (ha : a < 144) : Go (d + 1) 55 0 [some (.int (nI a))] [] h Q = Q (some (.int (nI (2 ^ (a / 24) ||| 2 ^ (a / 4 % 6))))) h := by
  simp only [s_55_0, s_55_1, s_55_2, s_55_5, s_55_6, s_55_7, s_55_8, s_55_11, s_55_12, s_55_13, c_X6_teacherOf (by omega : a < 2147483648), c_X6_pupilOf (by omega : a < 2147483648), ap_some, i_1s (by omega : a / 24 < 31), i_1s (by omega : a / 4 % 6 < 31), i_or]
end SM
