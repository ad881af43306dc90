/-! know, need, hears, told, passes, seed: class and reference alike -/
theorem isr_t {j n : Nat} (h : j < n) (hn : n < 2147483648) : isr (nI j) n = true := by rw [isr_nI (by omega)]; exact decide_eq_true h
theorem or_lt {a b n : Nat} (ha : a < 2 ^ n) (hb : b < n) : a ||| 2 ^ b < 2 ^ n := Nat.or_lt_two_pow ha (Nat.pow_lt_pow_right (by decide) hb)
section O2
variable {d : Nat} {Q : Option Value → ex_H → Prop} {lx : Nat} {xs : Nat → Int32} {M : Nat → Nat → Int32} {x y z : Int32} {S : Nat → Nat → Nat} {a b c j k n t q : Nat} {e : Bool}
theorem op_know (hW : WF S) : opS 17 121 [some (.ref 1), some (.int x), some (.int y), some (.int z), none] [some (.ref 53), some (.int x), some (.int y), some (.int z), none] S := by
  by_cases h : isr x (S 0 0) = true ∧ isr y 4 = true ∧ (-1 ≤ z.toInt ∧ z.toInt ≤ 96)
  · obtain ⟨h1, h2, h3, h4⟩ := h
    obtain ⟨c, hc, -, rfl⟩ := isr_of h1
    obtain ⟨t, ht, -, rfl⟩ := isr_of h2
    by_cases hz : z.toInt = -1
    · exact op_know_set (k := 97) hW hc ht (by decide) (by rw [if_pos rfl]; exact Int32.toInt_inj.mp hz)
    · obtain ⟨v, hv, -, rfl⟩ := isr_of (x := z) (n := 97) (by unfold isr; exact decide_eq_true ⟨by omega, by omega⟩)
      exact op_know_set (k := v) hW hc ht (by omega) (by rw [if_neg (by omega)])
  · refine op_know_bad hW ?_
    by_cases h1 : isr x (S 0 0) = false
    · exact Or.inl h1
    · by_cases h2 : isr y 4 = false
      · exact Or.inr (Or.inl h2)
      · exact Or.inr (Or.inr fun q => h ⟨Bool.of_not_eq_false h1, Bool.of_not_eq_false h2, q⟩)
theorem op_need (hW : WF S) : opS 18 122 [some (.ref 1), some (.int x), some (.int y), none] [some (.ref 53), some (.int x), some (.int y), none] S := by
  have w1 := hW.1
  have h7 : ∀ d h Q, Go (d + 1) 114 0 [some (.long y.toInt64), none, some (.long (lN 0)), none, some (.long (lN 15)), none] [] h Q = Q (some (.int (bI (isr y 16)))) h := by
    intro d h Q
    rw [c_X7_in]
    congr 4
    rw [Bool.eq_iff_iff]
    simp only [isr, decide_eq_true_eq, Int32.toInt_toInt64]
    rw [lN_toInt (by decide : 0 < 2 ^ 31), lN_toInt (by decide : 15 < 2 ^ 31)]
    omega
  by_cases h1 : isr x 4 = true
  · by_cases h2 : isr y 16 = true
    · obtain ⟨t, ht, -, rfl⟩ := isr_of h1
      obtain ⟨s, hs, -, rfl⟩ := isr_of h2
      by_cases h3 : s.testBit t = true
      · refine opS_same (-1) hW (fun lx xs M hC Q => ?_) (fun lx xs M hC Q => ?_)
        · simp (disch := omega) only [s_18_0, s_18_1, s_18_4, s_18_7, s_18_8, s_18_11, s_18_14, s_18_15, s_18_16, s_18_19, s_18_22, s_18_23, s_18_24, s_18_25, s_18_28, s_18_31, s_18_32, s_18_33, s_18_34, s_18_35, s_18_38, s_18_41, s_18_42, s_18_43, s_18_44, s_18_45, c_X6_isThing, c_X6_isSet, c_X6_has, ap_some, bI_0, h1, h2, h3, Bool.true_eq_false, if_false]
        · simp (disch := omega) only [s_122_0, s_122_1, s_122_4, s_122_7, s_122_8, s_122_9, s_122_10, s_122_13, s_122_16, s_122_19, s_122_20, s_122_21, s_122_24, s_122_27, s_122_28, s_122_29, s_122_30, s_122_33, s_122_34, s_122_35, s_122_36, s_122_37, s_122_40, s_122_41, s_122_42, s_122_43, s_122_44, c_X7_isThing, h7, c_X7_has, ap_some, bI_0, h1, h2, h3, Bool.true_eq_false, if_false]
      · rw [Bool.not_eq_true] at h3
        refine ⟨nI (S 4 t), upS S 4 t s, WF_need hW hs, fun lx xs M hC hB => ⟨_, RepC_need hC, KB_ne hB _ _ (by decide), (frC.rf M).up 7 _ _ (by unfold prC; omega), fun Q => ?_⟩, fun lx xs M hC => ⟨_, RepM_need hC, (frM.rf M).up 57 _ _ (by omega), fun Q => ?_⟩⟩
        · have e1 := hC.2.2.2.2.2.2.2.1 t ht
          simp only [Nat.reduceAdd] at e1
          simp (disch := omega) only [s_18_0, s_18_1, s_18_4, s_18_7, s_18_8, s_18_11, s_18_14, s_18_15, s_18_16, s_18_19, s_18_22, s_18_23, s_18_24, s_18_25, s_18_28, s_18_31, s_18_32, s_18_33, s_18_34, s_18_35, s_18_38, s_18_41, s_18_42, s_18_43, s_18_44, s_18_45, c_X6_isThing, c_X6_isSet, c_X6_has, ap_some, bI_0, h1, h2, h3, Bool.true_eq_false, if_false, if_true, i_in, i_cl, true_and, e1]
        · have e1 := hC.2.2.2.2.2.2.1 t ht
          simp (disch := omega) only [s_122_0, s_122_1, s_122_4, s_122_7, s_122_8, s_122_9, s_122_10, s_122_13, s_122_16, s_122_19, s_122_20, s_122_21, s_122_24, s_122_27, s_122_28, s_122_29, s_122_30, s_122_33, s_122_34, s_122_35, s_122_36, s_122_37, s_122_40, s_122_41, s_122_42, s_122_43, s_122_44, c_X7_isThing, h7, c_X7_has, ap_some, bI_0, h1, h2, h3, Bool.true_eq_false, if_false, if_true, i_in, i_cl, true_and, e1]
    · rw [Bool.not_eq_true] at h2
      refine opS_same (-1) hW (fun lx xs M hC Q => ?_) (fun lx xs M hC Q => ?_)
      · simp (disch := omega) only [s_18_0, s_18_1, s_18_4, s_18_7, s_18_8, s_18_11, s_18_14, s_18_15, s_18_16, s_18_19, s_18_22, s_18_23, s_18_24, s_18_25, s_18_28, s_18_31, s_18_32, s_18_33, s_18_34, s_18_35, s_18_38, s_18_41, s_18_42, s_18_43, s_18_44, s_18_45, c_X6_isThing, c_X6_isSet, ap_some, bI_0, h1, h2, Bool.true_eq_false, if_false, if_true]
      · simp (disch := omega) only [s_122_0, s_122_1, s_122_4, s_122_7, s_122_8, s_122_9, s_122_10, s_122_13, s_122_16, s_122_19, s_122_20, s_122_21, s_122_24, s_122_27, s_122_28, s_122_29, s_122_30, s_122_33, s_122_34, s_122_35, s_122_36, s_122_37, s_122_40, s_122_41, s_122_42, s_122_43, s_122_44, c_X7_isThing, h7, ap_some, bI_0, h1, h2, Bool.true_eq_false, if_false, if_true]
  · rw [Bool.not_eq_true] at h1
    refine opS_same (-1) hW (fun lx xs M hC Q => ?_) (fun lx xs M hC Q => ?_)
    · simp (disch := omega) only [s_18_0, s_18_1, s_18_4, s_18_7, s_18_8, s_18_11, s_18_14, s_18_15, s_18_16, s_18_19, s_18_22, s_18_23, s_18_24, s_18_25, s_18_28, s_18_31, s_18_32, s_18_33, s_18_34, s_18_35, s_18_38, s_18_41, s_18_42, s_18_43, s_18_44, s_18_45, c_X6_isThing, ap_some, bI_0, h1, if_true]
    · simp (disch := omega) only [s_122_0, s_122_1, s_122_4, s_122_7, s_122_8, s_122_9, s_122_10, s_122_13, s_122_16, s_122_19, s_122_20, s_122_21, s_122_24, s_122_27, s_122_28, s_122_29, s_122_30, s_122_33, s_122_34, s_122_35, s_122_36, s_122_37, s_122_40, s_122_41, s_122_42, s_122_43, s_122_44, c_X7_isThing, ap_some, bI_0, h1, if_true]
theorem op_hears (hW : WF S) : opS 19 123 [some (.ref 1), some (.int x), some (.int y), some (.int (bI e)), none] [some (.ref 53), some (.int x), some (.int y), some (.int (bI e)), none] S := by
  have w1 := hW.1
  by_cases h : isr x (S 0 0) = true ∧ isr y (S 0 0) = true ∧ ¬ x = y
  · obtain ⟨h1, h2, h4⟩ := h
    obtain ⟨a, ha, -, rfl⟩ := isr_of h1
    obtain ⟨b, hb, -, rfl⟩ := isr_of h2
    have v1 := hW.2.2.2.2.2.1 a (by omega)
    have v2 : (if e then S 3 a ||| 2 ^ b else wo (S 3 a) (2 ^ b)) < 64 := by
      split
      · exact or_lt (n := 6) v1 (by omega)
      · have := wo_le (S 3 a) (2 ^ b); omega
    have hab : b ≠ a := fun q => h4 (by rw [q])
    have v0 := hW.2.2.1.2 a ha
    have v3 : (if e then S 3 a ||| 2 ^ b else wo (S 3 a) (2 ^ b)).testBit a = false := by
      split
      · rw [Nat.testBit_or, v0, Nat.testBit_two_pow_of_ne hab]; rfl
      · rw [wo_bit, v0]; rfl
    refine ⟨bI ((S 3 a).testBit b), upS S 3 a (if e then S 3 a ||| 2 ^ b else wo (S 3 a) (2 ^ b)), WF_heard hW v2 (fun _ => v3), fun lx xs M hC hB => ⟨_, RepC_heard hC, KB_ne hB _ _ (by decide), (frC.rf M).up 6 _ _ (by unfold prC; omega), fun Q => ?_⟩, fun lx xs M hC => ⟨_, RepM_heard hC, (frM.rf M).up 55 _ _ (by omega), fun Q => ?_⟩⟩
    · have e1 := hC.2.2.2.2.2.2.1 a (by omega)
      simp only [Nat.reduceAdd] at e1
      simp (disch := omega) only [s_19_0, s_19_1, s_19_4, s_19_5, s_19_8, s_19_11, s_19_12, s_19_15, s_19_16, s_19_19, s_19_22, s_19_23, s_19_24, s_19_27, s_19_28, s_19_29, s_19_30, s_19_33, s_19_36, s_19_37, s_19_38, s_19_40, s_19_41, s_19_44, s_19_47, s_19_48, s_19_49, s_19_52, s_19_54, s_19_55, s_19_56, s_19_57, s_19_58, s_19_61, s_19_63, s_19_64, s_19_65, s_19_66, s_19_67, s_19_68, s_19_69, s_19_70, s_19_72, s_19_73, s_19_76, s_19_79, s_19_80, s_19_83, s_19_84, c_X3_isChild w1 hC.1, c_X6_has, ap_some, bI_0, h1, h2, h4, Bool.true_eq_false, if_false, i_in, i_cl, true_and, e1, i_1s, i_or, i_wo, q_ite, q_01, q_bf]
      cases e <;> simp
    · have e1 := hC.2.2.2.2.2.1 a (by omega)
      simp (disch := omega) only [s_123_0, s_123_1, s_123_2, s_123_3, s_123_6, s_123_9, s_123_10, s_123_11, s_123_12, s_123_15, s_123_16, s_123_17, s_123_18, s_123_19, s_123_20, s_123_21, s_123_23, s_123_24, s_123_27, s_123_28, s_123_29, s_123_32, s_123_33, s_123_36, s_123_37, s_123_38, s_123_39, s_123_40, s_123_41, s_123_42, s_123_45, s_123_46, s_123_49, s_123_50, s_123_51, s_123_52, s_123_53, s_123_54, s_123_55, s_123_56, s_123_57, s_123_58, s_123_60, c_X7_areTwo w1 hC.1, ap_some, bI_0, h1, h2, h4, decide_false, Bool.not_false, Bool.true_and, Bool.true_eq_false, if_false, i_in, i_cl, true_and, e1, i_1s, i_or, i_wo, i_bit]
      cases e <;> simp
  · refine opS_same (-1) hW (fun lx xs M hC Q => ?_) (fun lx xs M hC Q => ?_)
    · simp (disch := omega) only [s_19_0, s_19_1, s_19_4, s_19_5, s_19_8, s_19_11, s_19_12, s_19_15, s_19_16, s_19_19, s_19_22, s_19_23, s_19_24, s_19_27, s_19_28, s_19_29, s_19_30, s_19_33, s_19_36, s_19_37, s_19_38, s_19_40, s_19_41, s_19_44, s_19_47, s_19_48, s_19_49, s_19_52, s_19_54, s_19_55, s_19_56, s_19_57, s_19_58, s_19_61, s_19_63, s_19_64, s_19_65, s_19_66, s_19_67, s_19_68, s_19_69, s_19_70, s_19_72, s_19_73, s_19_76, s_19_79, s_19_80, s_19_83, s_19_84, c_X3_isChild w1 hC.1, ap_some, bI_0]
      by_cases h1 : isr x (S 0 0) = false
      · rw [if_pos h1]
      · by_cases h2 : isr y (S 0 0) = false
        · rw [if_neg h1, if_pos h2]
        · rw [if_neg h1, if_neg h2, if_pos]
          exact Decidable.byContradiction fun q => h ⟨Bool.of_not_eq_false h1, Bool.of_not_eq_false h2, q⟩
    · simp (disch := omega) only [s_123_0, s_123_1, s_123_2, s_123_3, s_123_6, s_123_9, s_123_10, s_123_11, s_123_12, s_123_15, s_123_16, s_123_17, s_123_18, s_123_19, s_123_20, s_123_21, s_123_23, s_123_24, s_123_27, s_123_28, s_123_29, s_123_32, s_123_33, s_123_36, s_123_37, s_123_38, s_123_39, s_123_40, s_123_41, s_123_42, s_123_45, s_123_46, s_123_49, s_123_50, s_123_51, s_123_52, s_123_53, s_123_54, s_123_55, s_123_56, s_123_57, s_123_58, s_123_60, c_X7_areTwo w1 hC.1, ap_some, bI_0]
      rw [if_pos]
      rw [← Bool.not_eq_true]
      simp only [Bool.and_eq_true, Bool.not_eq_true', decide_eq_false_iff_not]
      exact h
theorem op_seed (hW : WF S) : opS 36 159 [some (.ref 1), some (.int x), none] [some (.ref 53), some (.int x), none] S := by
  by_cases h : x < 0
  · refine opS_same (-1) hW (fun lx xs M hC Q => ?_) (fun lx xs M hC Q => ?_)
    · simp only [s_36_0, s_36_1, s_36_4, s_36_5, s_36_6, s_36_7, s_36_10, s_36_13, s_36_14, s_36_15, s_36_18, s_36_19, s_36_22, s_36_23, h, if_true]
    · simp only [s_159_0, s_159_1, s_159_4, s_159_5, s_159_6, s_159_7, s_159_10, s_159_11, s_159_12, s_159_13, s_159_16, s_159_17, h, if_true]
  · obtain ⟨j, hj, rfl⟩ := nI_of h
    refine ⟨nI (S 0 2), upS S 0 2 j, WF_draw hW hj, fun lx xs M hC hB => ⟨_, RepC_draw hC, KB_ne hB _ _ (by decide), (frC.rf M).up 2 _ _ (by unfold prC; omega), fun Q => ?_⟩, fun lx xs M hC => ⟨_, RepM_draw hC, frM_up53 (frM.rf M) 8 _ (by decide), fun Q => ?_⟩⟩
    · simp only [s_36_0, s_36_1, s_36_4, s_36_5, s_36_6, s_36_7, s_36_10, s_36_13, s_36_14, s_36_15, s_36_18, s_36_19, s_36_22, s_36_23, h, if_false, hC.2.2.1]
    · simp only [s_159_0, s_159_1, s_159_4, s_159_5, s_159_6, s_159_7, s_159_10, s_159_11, s_159_12, s_159_13, s_159_16, s_159_17, h, if_false, hC.2.2.1]
end O2
