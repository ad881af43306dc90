/-! order: the reference, and both alike -/
section OT
variable {d : Nat} {Q : Option Value → ex_H → Prop} {lx : Nat} {xs : Nat → Int32} {M : Nat → Nat → Int32} {x y z : Int32} {S : Nat → Nat → Nat} {a b c i j k l n t q s : Nat}
theorem RepM_row (hC : RepM M S) (c j : Nat) (x : Int32) (hc : 59 ≤ c) : RepM (up M c j x) S := by
  obtain ⟨c1, c2, c3, c4, c5, c6, c7, c8, c9⟩ := hC
  refine ⟨?_, ?_, ?_, ?_, ?_, ?_, ?_, ?_, ?_⟩
  all_goals first | (rw [up_ne _ _ _ (by omega)]; assumption) | (intro i hi; rw [up_ne _ _ _ (by omega)]; first | exact c4 i hi | exact c5 i hi | exact c6 i hi | exact c7 i hi | exact c9 i hi)
/-- the reference's best of a set -/
theorem b_X7_order (hC : RepM M S) (hW : WF S) (hl : l < 16) {o1 o2 o4 : Value} : Go (d + 1) 150 41 [some (.ref 53), some o1, some o2, some (.int (nI l)), some o4, some (.int (-1)), some (.int (nI 3))] [] (HP lx xs M) Q = Go (d + 1) 150 82 [some (.ref 53), some o1, some o2, some (.int (nI l)), some o4, some (.int (if ft S l = 4 then -1 else nI (ft S l))), some (.int (-1))] [] (HP lx xs M) Q := by
  rw [l_X7_order hC hW hl (by decide), show nI 3 + (-1) = nI 2 from pk_m1 2, l_X7_order hC hW hl (by decide), show nI 2 + (-1) = nI 1 from pk_m1 1, l_X7_order hC hW hl (by decide), show nI 1 + (-1) = nI 0 from pk_m1 0, l_X7_order hC hW hl (by decide), show nI 0 + (-1) = -1 by decide]
  rw [s_150_41]
  simp only [s_150_43, show ((-1 : Int32) < 0) = True by decide, ↓reduceIte]
  unfold ft
  cases tl S l 0 <;> cases tl S l 1 <;> cases tl S l 2 <;> cases tl S l 3 <;> simp
theorem ll_X7_order (hW : WF S) (hi : i < 4) : ∀ m l p M, l < 16 → pcn l ≤ m → p + m ≤ 4 → RepM M S → ∃ M1, RepM M1 S ∧ frM M M1 ∧ ∀ d Q o5 o6v, Go (d + 1) 150 31 [some (.ref 53), some (.int x), some (.int (nI i)), some (.int (nI l)), some (.int (nI p)), o5, o6v] [] (HP lx xs M) Q = Q (some (.int (o6 S i m l p (if i < p then M 68 i else -4)))) (HP lx xs M1) := by
  have fin : ∀ m p M, p ≤ 4 → RepM M S → ∃ M1, RepM M1 S ∧ frM M M1 ∧ ∀ d Q o5 o6v, Go (d + 1) 150 31 [some (.ref 53), some (.int x), some (.int (nI i)), some (.int (nI 0)), some (.int (nI p)), o5, o6v] [] (HP lx xs M) Q = Q (some (.int (o6 S i m 0 p (if i < p then M 68 i else -4)))) (HP lx xs M1) := by
    intro m p M hp hC
    refine ⟨M, hC, frM.rf M, fun d Q o5 o6v => ?_⟩
    have e : o6 S i m 0 p (if i < p then M 68 i else -4) = if i < p then M 68 i else -4 := by cases m <;> rfl
    rw [e]
    by_cases h : i < p
    · simp (disch := omega) only [s_150_31, s_150_32, s_150_114, s_150_115, s_150_117, s_150_120, s_150_121, s_150_124, s_150_125, s_150_126, s_150_129, s_150_131, ↓reduceIte, n0_0, i_lt, h, i_in, i_cl, true_and]
    · simp (disch := omega) only [s_150_31, s_150_32, s_150_114, s_150_115, s_150_117, s_150_120, s_150_121, s_150_124, s_150_125, s_150_126, s_150_129, s_150_131, ↓reduceIte, n0_0, i_lt, h]
  intro m
  induction m with
  | zero =>
    intro l p M hl hm hp hC
    have e := pcn_0 l hl (by omega)
    subst e
    exact fin 0 p M (by omega) hC
  | succ m ih =>
    intro l p M hl hm hp hC
    by_cases h0 : l = 0
    · subst h0; exact fin (m + 1) p M (by omega) hC
    · have e0 : (nI l = 0) = False := by rw [i_e0 (by omega)]; exact eq_false h0
      by_cases h4 : ft S l = 4
      · refine ⟨M, hC, frM.rf M, fun d Q o5 o6v => ?_⟩
        unfold o6
        rw [if_neg h0, if_pos h4]
        simp (disch := omega) only [s_150_31, s_150_32, s_150_35, s_150_36, s_150_38, s_150_39, ↓reduceIte, e0, b_X7_order hC hW hl, h4, s_150_82, s_150_84, s_150_87, s_150_89, show ((-1 : Int32) < 0) = True by decide]
      · obtain ⟨f1, f2⟩ := ft_bit S l h4
        have hl2 : wo l (2 ^ ft S l) < 16 := Nat.lt_of_le_of_lt (wo_le _ _) hl
        have hp2 := pcn_wo l hl _ f1 f2
        obtain ⟨M1, r1, r2, r3⟩ := ih (wo l (2 ^ ft S l)) (p + 1) (up M 68 p (nI (ft S l))) hl2 (by omega) (by omega) (RepM_row hC 68 _ _ (by decide))
        refine ⟨M1, r1, ((frM.rf M).up 68 _ _ (by omega)).tr r2, fun d Q o5 o6v => ?_⟩
        rw [s_150_31]
        simp (disch := omega) only [s_150_32, s_150_35, s_150_36, s_150_38, s_150_39, ↓reduceIte, e0, b_X7_order hC hW hl, h4, s_150_82, s_150_84, s_150_87, s_150_89, s_150_90, s_150_91, s_150_94, s_150_96, s_150_98, s_150_99, s_150_102, s_150_103, s_150_104, s_150_106, s_150_107, s_150_108, s_150_109, s_150_110, s_150_111, i_l0, i_in, i_cl, true_and, i_add, i_1s, i_wo]
        rw [r3]
        conv => rhs; unfold o6
        rw [if_neg h0, if_neg h4]
        congr 4
        by_cases hpi : p = i
        · subst hpi; rw [if_pos rfl, if_pos (by omega), up_at]
        · rw [if_neg hpi]
          by_cases h5 : i < p
          · rw [if_pos h5, if_pos (by omega), up_off (by omega)]
          · rw [if_neg h5, if_neg (by omega)]
theorem op_order (hW : WF S) : opS 32 150 [some (.ref 1), some (.int x), some (.int y), none, none, none, none] [some (.ref 53), some (.int x), some (.int y), none, none, none, none] S := by
  by_cases h1 : isr x 16 = true
  · by_cases h2 : isr y 4 = true
    · obtain ⟨s, hs, -, rfl⟩ := isr_of h1
      obtain ⟨i, hi, -, rfl⟩ := isr_of h2
      refine ⟨o6 S i 4 s 0 (-4), S, hW, fun lx xs M hC hB => ⟨M, hC, hB, frC.rf M, fun Q => ?_⟩, fun lx xs M hC => ?_⟩
      · simp (disch := omega) only [s_32_0, s_32_1, s_32_4, s_32_7, s_32_8, s_32_11, s_32_12, s_32_13, s_32_16, s_32_17, s_32_18, s_32_19, s_32_20, s_32_22, s_32_24, s_32_25, ↓reduceIte, c_X6_isSet, h1, bI_0, Bool.true_eq_false, ap_some, i_l0, i_lt, hi]
        exact ll_X6_order (d := 1997) hC hW hi 4 s 0 (-4) none hs (by omega)
      · obtain ⟨M1, r1, r2, r3⟩ := ll_X7_order (lx := lx) (xs := xs) (x := nI s) hW hi 4 s 0 M hs (pcn_16 s hs) (by omega) hC
        refine ⟨M1, r1, r2, fun Q => ?_⟩
        simp (disch := omega) only [s_150_0, s_150_1, s_150_2, s_150_3, s_150_6, s_150_9, s_150_12, s_150_13, s_150_14, s_150_15, s_150_18, s_150_21, s_150_24, s_150_25, s_150_26, s_150_27, s_150_28, s_150_29, ↓reduceIte, in_isr, Nat.reduceAdd, h1, h2, bI_0, Bool.true_eq_false, ap_some]
        exact r3 1998 Q none none
    · rw [Bool.not_eq_true] at h2
      refine opS_same (-1) hW (fun lx xs M hC Q => ?_) (fun lx xs M hC Q => ?_)
      · have h3 : ¬ (0 ≤ y.toInt ∧ y.toInt < 4) := by unfold isr at h2; exact of_decide_eq_false h2
        by_cases h4 : y.toInt < 0
        · simp (disch := omega) only [s_32_0, s_32_1, s_32_4, s_32_7, s_32_8, s_32_11, s_32_12, s_32_13, s_32_16, s_32_17, ↓reduceIte, c_X6_isSet, h1, bI_0, Bool.true_eq_false, ap_some, x_l0, h4]
        · have h5 : ¬ y < nI 4 := by rw [x_ln y (by decide)]; omega
          simp (disch := omega) only [s_32_0, s_32_1, s_32_4, s_32_7, s_32_8, s_32_11, s_32_12, s_32_13, s_32_16, s_32_17, ↓reduceIte, c_X6_isSet, h1, bI_0, Bool.true_eq_false, ap_some, x_l0, h4, h5]
      · simp (disch := omega) only [s_150_0, s_150_1, s_150_2, s_150_3, s_150_6, s_150_9, s_150_12, s_150_13, s_150_14, s_150_15, s_150_18, s_150_21, s_150_24, s_150_25, ↓reduceIte, in_isr, Nat.reduceAdd, h1, h2, bI_0, Bool.true_eq_false, ap_some]
  · rw [Bool.not_eq_true] at h1
    refine opS_same (-1) hW (fun lx xs M hC Q => ?_) (fun lx xs M hC Q => ?_)
    · simp (disch := omega) only [s_32_0, s_32_1, s_32_4, s_32_7, s_32_8, s_32_11, s_32_12, s_32_13, s_32_16, s_32_17, ↓reduceIte, c_X6_isSet, h1, bI_0, ap_some]
    · simp (disch := omega) only [s_150_0, s_150_1, s_150_2, s_150_3, s_150_6, s_150_9, s_150_12, s_150_13, s_150_14, s_150_15, s_150_18, s_150_21, s_150_24, s_150_25, ↓reduceIte, in_isr, Nat.reduceAdd, h1, bI_0, ap_some]
end OT
