/-! told, passes, child -/
section O3
variable {d : Nat} {Q : Option Value → ex_H → Prop} {lx : Nat} {xs : Nat → Int32} {M : Nat → Nat → Int32} {x y z : Int32} {S : Nat → Nat → Nat} {a b c j k n t q : Nat} {e : Bool}
theorem in_isr (y : Int32) (m : Nat) (hm : m < 2147483648) (d : Nat) (h : ex_H) (Q : Option Value → ex_H → Prop) : Go d 114 0 [some (.long y.toInt64), none, some (.long (lN 0)), none, some (.long (lN m)), none] [] h Q = Q (some (.int (bI (isr y (m + 1))))) h := by
  rw [c_X7_in]
  congr 4
  rw [Bool.eq_iff_iff]
  simp only [isr, decide_eq_true_eq, Int32.toInt_toInt64]
  rw [lN_toInt (by decide : 0 < 2 ^ 31), lN_toInt hm]
  omega
theorem op_passes (hW : WF S) : opS 21 127 [some (.ref 1), some (.int x), some (.int y)] [some (.ref 53), some (.int x), some (.int y)] S := by
  have w1 := hW.1
  by_cases h1 : isr x (S 0 0) = true
  · by_cases h2 : isr y 97 = true
    · obtain ⟨c, hc, -, rfl⟩ := isr_of h1
      obtain ⟨v, hv, -, rfl⟩ := isr_of h2
      have v1 := hW.2.2.2.1 c (by omega)
      refine opS_same (nI (ps (S 1 c) v)) hW (fun lx xs M hC Q => ?_) (fun lx xs M hC Q => ?_)
      · have e1 := hC.2.2.2.1 c (by omega)
        simp only [Nat.reduceAdd] at e1
        simp (disch := omega) only [s_21_0, s_21_1, s_21_4, s_21_5, s_21_8, s_21_11, s_21_12, s_21_15, s_21_16, s_21_18, s_21_21, s_21_22, s_21_23, s_21_24, s_21_27, s_21_30, s_21_31, s_21_32, s_21_33, s_21_36, c_X3_isChild w1 hC.1, ap_some, bI_0, h1, Bool.true_eq_false, if_false, if_true, i_l0, i_lt, hv, i_in, i_cl, true_and, e1, c_X6_passedOn]
      · have e1 := hC.2.2.2.1 c (by omega)
        simp (disch := omega) only [s_127_0, s_127_1, s_127_2, s_127_5, s_127_8, s_127_9, s_127_10, s_127_11, s_127_14, s_127_17, s_127_20, s_127_21, s_127_24, s_127_25, s_127_26, s_127_27, s_127_30, s_127_33, s_127_34, c_X7_isChild w1 hC.1, in_isr, ap_some, bI_0, h1, h2, Bool.true_eq_false, if_false, i_in, i_cl, true_and, e1, c_X7_pass]
    · rw [Bool.not_eq_true] at h2
      refine opS_same (-1) hW (fun lx xs M hC Q => ?_) (fun lx xs M hC Q => ?_)
      · simp (disch := omega) only [s_21_0, s_21_1, s_21_4, s_21_5, s_21_8, s_21_11, s_21_12, s_21_15, s_21_16, s_21_18, s_21_21, s_21_22, s_21_23, s_21_24, s_21_27, s_21_30, s_21_31, s_21_32, s_21_33, s_21_36, c_X3_isChild w1 hC.1, ap_some, bI_0, h1, Bool.true_eq_false, if_false, x_l0, x_ln y (by decide : 97 < 2147483648)]
        have h3 : ¬ (0 ≤ y.toInt ∧ y.toInt < 97) := by unfold isr at h2; exact of_decide_eq_false h2
        by_cases h4 : y.toInt < 0
        · rw [if_pos h4]
        · rw [if_neg h4, if_neg (by omega)]
      · simp (disch := omega) only [s_127_0, s_127_1, s_127_2, s_127_5, s_127_8, s_127_9, s_127_10, s_127_11, s_127_14, s_127_17, s_127_20, s_127_21, s_127_24, s_127_25, s_127_26, s_127_27, s_127_30, s_127_33, s_127_34, c_X7_isChild w1 hC.1, in_isr, ap_some, bI_0, h1, h2, Bool.true_eq_false, if_false, if_true]
  · rw [Bool.not_eq_true] at h1
    refine opS_same (-1) hW (fun lx xs M hC Q => ?_) (fun lx xs M hC Q => ?_)
    · simp (disch := omega) only [s_21_0, s_21_1, s_21_4, s_21_5, s_21_8, s_21_11, s_21_12, s_21_15, s_21_16, s_21_18, s_21_21, s_21_22, s_21_23, s_21_24, s_21_27, s_21_30, s_21_31, s_21_32, s_21_33, s_21_36, c_X3_isChild w1 hC.1, ap_some, bI_0, h1, if_true]
    · simp (disch := omega) only [s_127_0, s_127_1, s_127_2, s_127_5, s_127_8, s_127_9, s_127_10, s_127_11, s_127_14, s_127_17, s_127_20, s_127_21, s_127_24, s_127_25, s_127_26, s_127_27, s_127_30, s_127_33, s_127_34, c_X7_isChild w1 hC.1, ap_some, bI_0, h1, if_true]
theorem op_told (hW : WF S) : opS 20 125 [some (.ref 1), some (.int x), some (.int y)] [some (.ref 53), some (.int x), some (.int y)] S := by
  have w1 := hW.1
  by_cases h1 : isr x (S 0 0) = true
  · by_cases h2 : isr y 7 = true
    · obtain ⟨c, hc, -, rfl⟩ := isr_of h1
      obtain ⟨v, hv, -, rfl⟩ := isr_of h2
      refine opS_same (if v = 0 then nI (S 1 c) else if v = 1 then nI (kn (S 2) c) else if v = 2 then nI (S 3 c) else nI (S 2 (c * 4 + (v - 3)))) hW (fun lx xs M hC Q => ?_) (fun lx xs M hC Q => ?_)
      · obtain ⟨c1, c2, c3, c4, c5, c6, c7, c8, c9, c10, c11, c12⟩ := hC
        simp only [Nat.reduceAdd] at c4 c5 c6 c7
        have e1 := c4 c (by omega); have e2 := c6 c hc; have e3 := c7 c (by omega)
        have e4 := c5 (c * 4 + (v - 3)) (by omega)
        rcases (by omega : v = 0 ∨ v = 1 ∨ v = 2 ∨ v = 3 ∨ v = 4 ∨ v = 5 ∨ v = 6) with rfl | rfl | rfl | rfl | rfl | rfl | rfl <;> simp (disch := omega) only [s_20_0, s_20_1, s_20_4, s_20_5, s_20_8, s_20_11, s_20_12, s_20_15, s_20_16, s_20_18, s_20_21, s_20_22, s_20_23, s_20_24_0, s_20_24_1, s_20_24_2, s_20_24_3, s_20_24_4, s_20_24_5, s_20_24_6, s_20_24_7, s_20_24_8, s_20_52, s_20_53, s_20_56, s_20_59, s_20_60, s_20_61, s_20_62, s_20_63, s_20_66, s_20_69, s_20_70, s_20_71, s_20_72, s_20_73, s_20_76, s_20_79, s_20_80, s_20_81, s_20_82, s_20_83, s_20_86, s_20_87, s_20_88, s_20_89, s_20_90, s_20_93, c_X3_isChild w1 c1, ap_some, bI_0, h1, Bool.true_eq_false, if_false, i_l0, i_lt, i_in, i_cl, true_and, e1, e2, e3, i_sub, c_X3_saying, Nat.reduceSub, Nat.reduceLT, if_true] <;> first | rfl | (simp only [Nat.reduceSub] at e4; rw [e4]; rfl)
      · obtain ⟨c1, c2, c3, c4, c5, c6, c7, c8, c9⟩ := hC
        have e1 := c4 c (by omega); have e3 := c6 c (by omega)
        by_cases hv3 : v < 3
        · rcases (by omega : v = 0 ∨ v = 1 ∨ v = 2) with rfl | rfl | rfl <;> simp (disch := omega) only [s_125_0, s_125_1, s_125_2, s_125_5, s_125_8, s_125_9, s_125_10, s_125_11, s_125_14, s_125_17, s_125_20, s_125_21, s_125_22, s_125_23, s_125_26, s_125_27, s_125_30, s_125_31, s_125_32, s_125_35, s_125_36, s_125_37, s_125_40, s_125_41, s_125_42, s_125_45, s_125_48, s_125_49, s_125_50, s_125_53, s_125_54, s_125_57, s_125_58, s_125_59, s_125_62, s_125_63, s_125_66, s_125_67, s_125_68, s_125_69, s_125_70, s_125_71, s_125_72, s_125_73, s_125_74, c_X7_isChild w1 c1, in_isr, h2, c_X7_knownTo (by omega : c < 6) c5 hW.2.2.2.2.1, ap_some, bI_0, h1, Bool.true_eq_false, if_false, i_eq, i_e0, i_in, i_cl, true_and, e1, e3] <;> simp
        · have n0 : (v = 0) = False := eq_false (by omega)
          have n1 : (v = 1) = False := eq_false (by omega)
          have n2 : (v = 2) = False := eq_false (by omega)
          have e4 := c5 (4 * c + v - 3) (by omega)
          simp (disch := omega) only [s_125_0, s_125_1, s_125_2, s_125_5, s_125_8, s_125_9, s_125_10, s_125_11, s_125_14, s_125_17, s_125_20, s_125_21, s_125_22, s_125_23, s_125_26, s_125_27, s_125_30, s_125_31, s_125_32, s_125_35, s_125_36, s_125_37, s_125_40, s_125_41, s_125_42, s_125_45, s_125_48, s_125_49, s_125_50, s_125_53, s_125_54, s_125_57, s_125_58, s_125_59, s_125_62, s_125_63, s_125_66, s_125_67, s_125_68, s_125_69, s_125_70, s_125_71, s_125_72, s_125_73, s_125_74, c_X7_isChild w1 c1, in_isr, h2, ap_some, bI_0, h1, Bool.true_eq_false, if_false, i_eq, i_e0, n0, n1, n2, i_in, i_cl, true_and, i_sub, i_add, i_mul, e4]
          rw [show 4 * c + v - 3 = c * 4 + (v - 3) by omega]
    · rw [Bool.not_eq_true] at h2
      refine opS_same (-1) hW (fun lx xs M hC Q => ?_) (fun lx xs M hC Q => ?_)
      · simp (disch := omega) only [s_20_0, s_20_1, s_20_4, s_20_5, s_20_8, s_20_11, s_20_12, s_20_15, s_20_16, s_20_18, s_20_21, s_20_22, s_20_23, s_20_24_0, s_20_24_1, s_20_24_2, s_20_24_3, s_20_24_4, s_20_24_5, s_20_24_6, s_20_24_7, s_20_24_8, s_20_52, s_20_53, s_20_56, s_20_59, s_20_60, s_20_61, s_20_62, s_20_63, s_20_66, s_20_69, s_20_70, s_20_71, s_20_72, s_20_73, s_20_76, s_20_79, s_20_80, s_20_81, s_20_82, s_20_83, s_20_86, s_20_87, s_20_88, s_20_89, s_20_90, s_20_93, c_X3_isChild w1 hC.1, ap_some, bI_0, h1, Bool.true_eq_false, if_false, x_l0, x_ln y (by decide : 7 < 2147483648)]
        have h3 : ¬ (0 ≤ y.toInt ∧ y.toInt < 7) := by unfold isr at h2; exact of_decide_eq_false h2
        by_cases h4 : y.toInt < 0
        · rw [if_pos h4]
        · rw [if_neg h4, if_neg (by omega)]
      · simp (disch := omega) only [s_125_0, s_125_1, s_125_2, s_125_5, s_125_8, s_125_9, s_125_10, s_125_11, s_125_14, s_125_17, s_125_20, s_125_21, s_125_22, s_125_23, s_125_26, s_125_27, s_125_30, s_125_31, s_125_32, s_125_35, s_125_36, s_125_37, s_125_40, s_125_41, s_125_42, s_125_45, s_125_48, s_125_49, s_125_50, s_125_53, s_125_54, s_125_57, s_125_58, s_125_59, s_125_62, s_125_63, s_125_66, s_125_67, s_125_68, s_125_69, s_125_70, s_125_71, s_125_72, s_125_73, s_125_74, c_X7_isChild w1 hC.1, in_isr, ap_some, bI_0, h1, h2, Bool.true_eq_false, if_false, if_true]
  · rw [Bool.not_eq_true] at h1
    refine opS_same (-1) hW (fun lx xs M hC Q => ?_) (fun lx xs M hC Q => ?_)
    · simp (disch := omega) only [s_20_0, s_20_1, s_20_4, s_20_5, s_20_8, s_20_11, s_20_12, s_20_15, s_20_16, s_20_18, s_20_21, s_20_22, s_20_23, s_20_24_0, s_20_24_1, s_20_24_2, s_20_24_3, s_20_24_4, s_20_24_5, s_20_24_6, s_20_24_7, s_20_24_8, s_20_52, s_20_53, s_20_56, s_20_59, s_20_60, s_20_61, s_20_62, s_20_63, s_20_66, s_20_69, s_20_70, s_20_71, s_20_72, s_20_73, s_20_76, s_20_79, s_20_80, s_20_81, s_20_82, s_20_83, s_20_86, s_20_87, s_20_88, s_20_89, s_20_90, s_20_93, c_X3_isChild w1 hC.1, ap_some, bI_0, h1, if_true]
    · simp (disch := omega) only [s_125_0, s_125_1, s_125_2, s_125_5, s_125_8, s_125_9, s_125_10, s_125_11, s_125_14, s_125_17, s_125_20, s_125_21, s_125_22, s_125_23, s_125_26, s_125_27, s_125_30, s_125_31, s_125_32, s_125_35, s_125_36, s_125_37, s_125_40, s_125_41, s_125_42, s_125_45, s_125_48, s_125_49, s_125_50, s_125_53, s_125_54, s_125_57, s_125_58, s_125_59, s_125_62, s_125_63, s_125_66, s_125_67, s_125_68, s_125_69, s_125_70, s_125_71, s_125_72, s_125_73, s_125_74, c_X7_isChild w1 hC.1, ap_some, bI_0, h1, if_true]
end O3
