/-! run: class and reference alike -/
theorem tch_row {S : Nat → Nat → Nat} {a b t r : Nat} (h0 : r ≠ 0) (h2 : r ≠ 2) : tch S a b t r = S r := by unfold tch; rw [upS_row h0, upS_row h2]
theorem tch_00 {S : Nat → Nat → Nat} {a b t : Nat} : tch S a b t 0 0 = S 0 0 := by unfold tch; rw [upS_off (by omega), upS_row (by decide)]
theorem al_k {S : Nat → Nat → Nat} {a b t : Nat} (h : al S a b t = true) : S 2 (a * 4 + t) < 97 := by
  unfold al at h
  exact of_decide_eq_true (Bool.and_eq_true_iff.mp h).1
theorem two_lt {a b : Nat} (ha : a < 6) (hb : b < 6) : 2 ^ a ||| 2 ^ b < 64 := Nat.or_lt_two_pow (n := 6) (Nat.pow_lt_pow_right (by decide) ha) (Nat.pow_lt_pow_right (by decide) hb)
theorem rn_both : ∀ (m i bz : Nat) (S : Nat → Nat → Nat), WF S → i + m = S 5 0 → bz < 64 → ∃ (ans : Int32) (S1 : Nat → Nat → Nat), WF S1 ∧
  (∀ lx xs M, RepC M 2 S → KB M 5 → ∃ M1, RepC M1 2 S1 ∧ KB M1 5 ∧ frC M M1 ∧ ∀ d Q o3, Go (d + 3) 69 4 [some (.ref 2), some (.int (nI bz)), some (.int (nI i)), o3] [] (HP lx xs M) Q = Q (some (.int ans)) (HP lx xs M1)) ∧
  (∀ lx xs M, RepM M S → ∃ M1, RepM M1 S1 ∧ frM M M1 ∧ ∀ d Q o3, Go (d + 2) 141 4 [some (.ref 53), some (.int (nI bz)), some (.int (nI i)), o3] [] (HP lx xs M) Q = Q (some (.int ans)) (HP lx xs M1)) := by
  intro m
  induction m with
  | zero =>
    intro i bz S hW hi hb
    have e : i = S 5 0 := by omega
    subst e
    have w8 := hW.2.2.2.2.2.2.2.1
    refine ⟨nI (S 5 0), S, hW, fun lx xs M hC hB => ⟨M, hC, hB, frC.rf M, fun d Q o3 => ?_⟩, fun lx xs M hC => ⟨M, hC, frM.rf M, fun d Q o3 => ?_⟩⟩
    · have c9 := hC.2.2.2.2.2.2.2.2.1
      simp only [Nat.reduceAdd] at c9
      rw [s_69_4]
      simp (disch := omega) only [s_69_0, s_69_1, s_69_2, s_69_3, s_69_5, s_69_6, s_69_9, s_69_12, s_69_15, s_69_16, s_69_19, s_69_22, s_69_23, s_69_24, s_69_25, s_69_26, s_69_29, s_69_32, s_69_33, s_69_34, s_69_37, s_69_38, s_69_39, s_69_40, s_69_41, s_69_44, s_69_45, s_69_48, s_69_49, s_69_50, s_69_53, s_69_54, s_69_57, s_69_60, s_69_61, s_69_62, s_69_63, s_69_64, s_69_67, s_69_68, s_69_69, s_69_70, s_69_71, s_69_74, s_69_77, s_69_80, s_69_81, s_69_84, s_69_87, ↓reduceIte, c9, i_lt, Nat.lt_irrefl]
    · have c8 := hC.2.2.2.2.2.2.2.1
      rw [s_141_4]
      simp (disch := omega) only [s_141_0, s_141_1, s_141_2, s_141_3, s_141_5, s_141_6, s_141_9, s_141_12, s_141_13, s_141_16, s_141_17, s_141_20, s_141_21, s_141_22, s_141_23, s_141_24, s_141_25, s_141_26, s_141_27, s_141_30, s_141_31, s_141_32, s_141_33, s_141_34, s_141_35, s_141_36, s_141_39, s_141_40, s_141_43, s_141_44, s_141_45, s_141_46, s_141_47, s_141_50, s_141_51, s_141_52, s_141_53, s_141_54, s_141_55, s_141_56, s_141_57, s_141_60, s_141_61, s_141_62, s_141_63, s_141_64, s_141_65, s_141_66, s_141_67, s_141_68, s_141_69, s_141_70, s_141_71, s_141_72, s_141_75, s_141_76, s_141_77, s_141_80, s_141_81, s_141_82, s_141_83, s_141_84, s_141_85, s_141_88, s_141_89, s_141_90, s_141_91, s_141_92, s_141_93, s_141_94, s_141_95, s_141_98, s_141_99, s_141_100, s_141_101, s_141_102, s_141_103, s_141_104, s_141_107, s_141_110, s_141_111, s_141_112, s_141_113, s_141_114, s_141_115, s_141_116, s_141_117, s_141_118, s_141_121, s_141_122, s_141_123, s_141_124, s_141_125, s_141_126, s_141_129, s_141_130, s_141_131, s_141_132, s_141_133, s_141_134, s_141_135, s_141_136, s_141_139, s_141_140, s_141_141, s_141_142, s_141_143, s_141_144, s_141_145, s_141_148, s_141_151, s_141_154, s_141_155, s_141_158, ↓reduceIte, c8, i_lt, Nat.lt_irrefl]
  | succ m ih =>
    intro i bz S hW hi hb
    have w1 := hW.1
    have w8 := hW.2.2.2.2.2.2.2.1
    obtain ⟨pa, pb, pab, pt, p9, p10⟩ := hW.2.2.2.2.2.2.2.2 i (by omega)
    have hi2 : i < S 5 0 := by omega
    obtain ⟨e1, e2, e3⟩ := tq_a (a := S 6 i) (b := S 7 i) (t := S 8 i) (by omega) (by omega) pt
    have tw := two_lt (a := S 6 i) (b := S 7 i) (by omega) (by omega)
    have ob : (if opn S i = true then 0 else bz) < 64 := by split <;> omega
    have oc : (if opn S i = true then 0 else bz) &&& (2 ^ S 6 i ||| 2 ^ S 7 i) < 2147483648 := Nat.lt_of_le_of_lt Nat.and_le_left (by omega)
    -- how far both come in this turn
    have k6 : ∀ lx xs M, RepC M 2 S → ∀ d Q o3, Go (d + 3) 69 4 [some (.ref 2), some (.int (nI bz)), some (.int (nI i)), o3] [] (HP lx xs M) Q = if (if opn S i = true then 0 else bz) &&& (2 ^ S 6 i ||| 2 ^ S 7 i) = 0 ∧ al S (S 6 i) (S 7 i) (S 8 i) = true then Go (d + 3) 69 62 [some (.ref 2), some (.int (nI (if opn S i = true then 0 else bz))), some (.int (nI i)), some (.int (nI ((S 6 i * 6 + S 7 i) * 4 + S 8 i)))] [] (HP lx xs M) Q else Q (some (.int (nI i))) (HP lx xs M) := by
      intro lx xs M hC d Q o3
      have hC' := hC
      obtain ⟨c1, c2, c3, c4, c5, c6, c7, c8, c9, c10, c11, c12⟩ := hC
      simp only [Nat.reduceAdd] at c4 c5 c6 c7 c8 c9 c10 c11 c12
      have f1 := c11 i hi2
      have f2 := c12 i hi2
      rw [s_69_4]
      by_cases ho : opn S i = true
      · simp only [ho, ↓reduceIte] at oc ⊢
        simp (disch := omega) only [s_69_5, s_69_6, s_69_9, s_69_12, s_69_15, s_69_16, s_69_19, s_69_22, s_69_23, s_69_24, s_69_25, s_69_26, s_69_29, s_69_32, s_69_33, s_69_34, s_69_37, s_69_38, s_69_39, s_69_40, s_69_41, s_69_44, s_69_45, s_69_48, s_69_49, s_69_50, s_69_53, s_69_54, s_69_57, s_69_60, s_69_61, ↓reduceIte, c9, i_lt, hi2, i_in, i_cl, true_and, f1, f2, ho, bI_0, Bool.true_eq_false, c_X6_pairOf, ap_some, e1, e2, i_and, i_e0, c_X3_allows hC' hW pa pb pt]
        by_cases h1 : 0 &&& (2 ^ S 6 i ||| 2 ^ S 7 i) = 0
        · by_cases h2 : al S (S 6 i) (S 7 i) (S 8 i) = true
          · simp only [h1, h2, and_self, ↓reduceIte, Bool.true_eq_false]
          · rw [Bool.not_eq_true] at h2
            simp only [h1, h2, ↓reduceIte, Bool.false_eq_true, and_false]
        · simp only [h1, ↓reduceIte, false_and]
      · rw [Bool.not_eq_true] at ho
        simp only [ho, ↓reduceIte, Bool.false_eq_true] at oc ⊢
        simp (disch := omega) only [s_69_5, s_69_6, s_69_9, s_69_12, s_69_15, s_69_16, s_69_19, s_69_22, s_69_23, s_69_24, s_69_25, s_69_26, s_69_29, s_69_32, s_69_33, s_69_34, s_69_37, s_69_38, s_69_39, s_69_40, s_69_41, s_69_44, s_69_45, s_69_48, s_69_49, s_69_50, s_69_53, s_69_54, s_69_57, s_69_60, s_69_61, ↓reduceIte, c9, i_lt, hi2, i_in, i_cl, true_and, f1, f2, ho, bI_0, Bool.true_eq_false, c_X6_pairOf, ap_some, e1, e2, i_and, i_e0, c_X3_allows hC' hW pa pb pt]
        by_cases h1 : bz &&& (2 ^ S 6 i ||| 2 ^ S 7 i) = 0
        · by_cases h2 : al S (S 6 i) (S 7 i) (S 8 i) = true
          · simp only [h1, h2, and_self, ↓reduceIte, Bool.true_eq_false]
          · rw [Bool.not_eq_true] at h2
            simp only [h1, h2, ↓reduceIte, Bool.false_eq_true, and_false]
        · simp only [h1, ↓reduceIte, false_and]
    have k7 : ∀ lx xs M, RepM M S → ∀ d Q o3, Go (d + 2) 141 4 [some (.ref 53), some (.int (nI bz)), some (.int (nI i)), o3] [] (HP lx xs M) Q = if (if opn S i = true then 0 else bz) &&& (2 ^ S 6 i ||| 2 ^ S 7 i) = 0 ∧ al S (S 6 i) (S 7 i) (S 8 i) = true then Go (d + 2) 141 112 [some (.ref 53), some (.int (nI (if opn S i = true then 0 else bz))), some (.int (nI i)), some (.int (nI (2 ^ S 6 i ||| 2 ^ S 7 i)))] [] (HP lx xs M) Q else Q (some (.int (nI i))) (HP lx xs M) := by
      intro lx xs M hC d Q o3
      have hC' := hC
      obtain ⟨c1, c2, c3, c4, c5, c6, c7, c8, c9⟩ := hC
      obtain ⟨f1, f2, f3, f4⟩ := c9 i hi2
      have st : Go (d + 2) 141 4 [some (.ref 53), some (.int (nI bz)), some (.int (nI i)), o3] [] (HP lx xs M) Q = Go (d + 2) 141 44 [some (.ref 53), some (.int (nI bz)), some (.int (nI i)), o3] [.int (nI (if opn S i = true then 0 else bz))] (HP lx xs M) Q := by
        rw [s_141_4]
        by_cases h0 : i = 0
        · have ho : opn S i = true := by unfold opn; exact decide_eq_true (Or.inl h0)
          have h00 : ¬ 0 < i := by omega
          simp (disch := omega) only [s_141_5, s_141_6, s_141_9, s_141_12, s_141_13, s_141_16, s_141_17, s_141_20, s_141_21, s_141_22, s_141_23, s_141_24, s_141_25, s_141_26, s_141_27, s_141_30, s_141_31, s_141_32, s_141_33, s_141_34, s_141_35, s_141_36, s_141_39, s_141_40, s_141_43, ↓reduceIte, c8, i_lt, hi2, i_0l, h00, ho]
        · have h00 : 0 < i := by omega
          have f5 := (c9 (i - 1) (by omega)).2.2.2
          have f6 := (hW.2.2.2.2.2.2.2.2 (i - 1) (by omega)).2.2.2.2.1
          rw [show 4 * (i - 1) + 3 = 4 * i - 1 by omega] at f5
          by_cases h9 : S 9 i = S 9 (i - 1)
          · have ho : opn S i = false := by unfold opn; exact decide_eq_false (by omega)
            simp (disch := omega) only [s_141_5, s_141_6, s_141_9, s_141_12, s_141_13, s_141_16, s_141_17, s_141_20, s_141_21, s_141_22, s_141_23, s_141_24, s_141_25, s_141_26, s_141_27, s_141_30, s_141_31, s_141_32, s_141_33, s_141_34, s_141_35, s_141_36, s_141_39, s_141_40, s_141_43, ↓reduceIte, c8, i_lt, hi2, i_0l, h00, ho, i_mul, i_add, i_sub, i_in, i_cl, true_and, f4, f5, i_eq, h9, Bool.false_eq_true]
          · have ho : opn S i = true := by unfold opn; exact decide_eq_true (Or.inr h9)
            simp (disch := omega) only [s_141_5, s_141_6, s_141_9, s_141_12, s_141_13, s_141_16, s_141_17, s_141_20, s_141_21, s_141_22, s_141_23, s_141_24, s_141_25, s_141_26, s_141_27, s_141_30, s_141_31, s_141_32, s_141_33, s_141_34, s_141_35, s_141_36, s_141_39, s_141_40, s_141_43, ↓reduceIte, c8, i_lt, hi2, i_0l, h00, ho, i_mul, i_add, i_sub, i_in, i_cl, true_and, f4, f5, i_eq, h9]
      rw [st]
      generalize hg : (if opn S i = true then 0 else bz) = g at ob oc ⊢
      simp (disch := omega) only [s_141_44, s_141_45, s_141_46, s_141_47, s_141_50, s_141_51, s_141_52, s_141_53, s_141_54, s_141_55, s_141_56, s_141_57, s_141_60, s_141_61, s_141_62, s_141_63, s_141_64, s_141_65, s_141_66, s_141_67, s_141_68, s_141_69, s_141_70, s_141_71, s_141_72, s_141_75, s_141_76, s_141_77, s_141_80, s_141_81, s_141_82, s_141_83, s_141_84, s_141_85, s_141_88, s_141_89, s_141_90, s_141_91, s_141_92, s_141_93, s_141_94, s_141_95, s_141_98, s_141_99, s_141_100, s_141_101, s_141_102, s_141_103, s_141_104, s_141_107, s_141_110, s_141_111, ↓reduceIte, i_mul, i_add, i_in, i_cl, true_and, f1, f2, f3, i_1s, i_or, i_and, i_e0, c_X7_mayBe hC' hW (by omega : S 6 i < 6) (by omega : S 7 i < 6) pt, ap_some, bI_0]
      by_cases h1 : g &&& (2 ^ S 6 i ||| 2 ^ S 7 i) = 0
      · by_cases h2 : al S (S 6 i) (S 7 i) (S 8 i) = true
        · simp only [h1, h2, and_self, ↓reduceIte, Bool.true_eq_false]
        · rw [Bool.not_eq_true] at h2
          simp only [h1, h2, ↓reduceIte, Bool.false_eq_true, and_false]
      · simp only [h1, ↓reduceIte, false_and]
    generalize hg : (if opn S i = true then 0 else bz) = g at ob oc k6 k7
    by_cases hh : g &&& (2 ^ S 6 i ||| 2 ^ S 7 i) = 0 ∧ al S (S 6 i) (S 7 i) (S 8 i) = true
    · simp only [hh, and_self, ↓reduceIte] at k6 k7
      have hk := al_k hh.2
      obtain ⟨ans, S1, W1, r6, r7⟩ := ih (i + 1) (g ||| (2 ^ S 6 i ||| 2 ^ S 7 i)) (tch S (S 6 i) (S 7 i) (S 8 i)) (tch_WF hW hk) (by rw [tch_row (by decide) (by decide)]; omega) (Nat.or_lt_two_pow (n := 6) ob tw)
      refine ⟨ans, S1, W1, fun lx xs M hC hB => ?_, fun lx xs M hC => ?_⟩
      · obtain ⟨M1, q1, q2, q3, q4⟩ := c_X3_perform (lx := lx) (xs := xs) hC hW pa pb pt hk hB
        obtain ⟨M2, s1, s2, s3, s4⟩ := r6 lx xs M1 q1 q2
        refine ⟨M2, s1, s2, q3.tr s3, fun d Q o3 => ?_⟩
        rw [k6 lx xs M hC]
        simp (disch := omega) only [s_69_62, s_69_63, s_69_64, s_69_67, s_69_68, s_69_69, s_69_70, s_69_71, s_69_74, s_69_77, c_X6_pairOf, ap_some, ap_none, e1, e2, i_or, q4, i_add]
        rw [s4]
      · obtain ⟨M1, q1, q3, q4⟩ := c_X7_teachNow (lx := lx) (xs := xs) hC hW (by omega : S 6 i < 6) (by omega : S 7 i < 6) pt hk
        obtain ⟨M2, s1, s3, s4⟩ := r7 lx xs M1 q1
        refine ⟨M2, s1, q3.tr s3, fun d Q o3 => ?_⟩
        obtain ⟨f1, f2, f3, f4⟩ := hC.2.2.2.2.2.2.2.2 i hi2
        rw [k7 lx xs M hC]
        simp (disch := omega) only [s_141_112, s_141_113, s_141_114, s_141_115, s_141_116, s_141_117, s_141_118, s_141_121, s_141_122, s_141_123, s_141_124, s_141_125, s_141_126, s_141_129, s_141_130, s_141_131, s_141_132, s_141_133, s_141_134, s_141_135, s_141_136, s_141_139, s_141_140, s_141_141, s_141_142, s_141_143, s_141_144, s_141_145, s_141_148, s_141_151, i_mul, i_add, i_in, i_cl, true_and, f1, f2, f3, i_or, q4, ap_none]
        rw [s4]
    · simp only [hh, ↓reduceIte] at k6 k7
      exact ⟨nI i, S, hW, fun lx xs M hC hB => ⟨M, hC, hB, frC.rf M, fun d Q o3 => k6 lx xs M hC d Q o3⟩, fun lx xs M hC => ⟨M, hC, frM.rf M, fun d Q o3 => k7 lx xs M hC d Q o3⟩⟩
theorem op_run {S : Nat → Nat → Nat} (hW : WF S) : opS 28 141 [some (.ref 1)] [some (.ref 53), none, none, none] S := by
  obtain ⟨ans, S1, W1, r6, r7⟩ := rn_both (S 5 0) 0 0 S hW (by omega) (by decide)
  refine ⟨ans, S1, W1, fun lx xs M hC hB => ?_, fun lx xs M hC => ?_⟩
  · obtain ⟨M1, q1, q2, q3, q4⟩ := r6 lx xs M hC hB
    refine ⟨M1, q1, q2, q3, fun Q => ?_⟩
    simp only [s_28_0, s_28_1, s_28_4, s_28_7, s_69_0, s_69_1, s_69_2, s_69_3]
    have := q4 1995
    simp only [Nat.reduceAdd] at this
    simp only [this, ap_some, s_28_0, s_28_1, s_28_4, s_28_7]
  · obtain ⟨M1, q1, q3, q4⟩ := r7 lx xs M hC
    refine ⟨M1, q1, q3, fun Q => ?_⟩
    simp only [s_141_0, s_141_1, s_141_2, s_141_3]
    exact q4 1997 Q none
