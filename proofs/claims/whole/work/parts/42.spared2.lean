/-! spared: the reference without a child, and both alike -/
theorem or_z {u v : Nat} : (u ||| v = 0) = (u = 0 ∧ v = 0) := by
  apply propext
  constructor
  · intro h
    have h1 : u ≤ u ||| v := Nat.left_le_or
    have h2 : v ≤ u ||| v := Nat.right_le_or
    omega
  · rintro ⟨rfl, rfl⟩; rfl
theorem and_p {u a : Nat} : (u &&& 2 ^ a = 0) = (u.testBit a = false) := by
  apply propext
  constructor
  · intro h
    have h1 := congrArg (fun q => q.testBit a) h
    simpa [Nat.testBit_and, Nat.testBit_two_pow_self] using h1
  · intro h
    apply Nat.eq_of_testBit_eq
    intro i
    rw [Nat.testBit_and, Nat.zero_testBit]
    by_cases e : i = a
    · subst e; rw [h, Bool.false_and]
    · rw [Nat.testBit_two_pow_of_ne (fun q => e q.symm), Bool.and_false]
theorem bz_ab {g ab a b : Nat} : ((g ||| ab) &&& (2 ^ a ||| 2 ^ b) = 0) = (g &&& (2 ^ a ||| 2 ^ b) = 0 ∧ ab.testBit a = false ∧ ab.testBit b = false) := by
  rw [Nat.and_or_distrib_right, or_z, Nat.and_or_distrib_left ab, or_z, and_p, and_p]
section SQ
variable {d : Nat} {Q : Option Value → ex_H → Prop} {lx : Nat} {xs : Nat → Int32} {M : Nat → Nat → Int32} {x y z : Int32} {S : Nat → Nat → Nat} {a b c j k n t q s r ab : Nat}
theorem ll_X7_goWithout (hx : ∀ a, a < 6 → (nI a = x) = (ab.testBit a = true)) : ∀ (m i bz : Nat) (S : Nat → Nat → Nat), WF S → i + m = S 5 0 → bz < 64 → ∀ M, RepM M S → ∃ M1, (∀ c, c ≠ 56 → M1 c = M c) ∧ RepM M1 (gw ab m i bz S) ∧ ∀ d Q o4 o5 o6, Go (d + 2) 147 4 [some (.ref 53), some (.int x), some (.int (nI bz)), some (.int (nI i)), o4, o5, o6] [] (HP lx xs M) Q = Q none (HP lx xs M1) := by
  intro m
  induction m with
  | zero =>
    intro i bz S hW hi hb M hC
    have e : i = S 5 0 := by omega
    subst e
    have w8 := hW.2.2.2.2.2.2.2.1
    have c8 := hC.2.2.2.2.2.2.2.1
    refine ⟨M, fun _ _ => rfl, hC, fun d Q o4 o5 o6 => ?_⟩
    rw [s_147_4]
    simp (disch := omega) only [s_147_5, s_147_6, s_147_9, s_147_150, ↓reduceIte, c8, i_lt, Nat.lt_irrefl]
  | succ m ih =>
    intro i bz S hW hi hb M hC
    have w1 := hW.1
    have w8 := hW.2.2.2.2.2.2.2.1
    obtain ⟨pa, pb, pab, pt, p9, p10⟩ := hW.2.2.2.2.2.2.2.2 i (by omega)
    have hi2 : i < S 5 0 := by omega
    have tw := two_lt (a := S 6 i) (b := S 7 i) (by omega) (by omega)
    have hC' := hC
    obtain ⟨c1, c2, c3, c4, c5, c6, c7, c8, c9⟩ := hC
    obtain ⟨f1, f2, f3, f4⟩ := c9 i hi2
    have ob : (if opn S i = true then 0 else bz) < 64 := by split <;> omega
    have xa := hx (S 6 i) (by omega)
    have xb := hx (S 7 i) (by omega)
    have st : ∀ d Q o4 o5 o6, Go (d + 2) 147 4 [some (.ref 53), some (.int x), some (.int (nI bz)), some (.int (nI i)), o4, o5, o6] [] (HP lx xs M) Q = Go (d + 2) 147 44 [some (.ref 53), some (.int x), some (.int (nI bz)), some (.int (nI i)), o4, o5, o6] [.int (nI (if opn S i = true then 0 else bz))] (HP lx xs M) Q := by
      intro d Q o4 o5 o6
      rw [s_147_4]
      by_cases h0 : i = 0
      · have ho : opn S i = true := by unfold opn; exact decide_eq_true (Or.inl h0)
        have h00 : ¬ 0 < i := by omega
        simp (disch := omega) only [s_147_5, s_147_6, s_147_9, s_147_12, s_147_13, s_147_16, s_147_17, s_147_20, s_147_21, s_147_22, s_147_23, s_147_24, s_147_25, s_147_26, s_147_27, s_147_30, s_147_31, s_147_32, s_147_33, s_147_34, s_147_35, s_147_36, s_147_39, s_147_40, s_147_43, ↓reduceIte, c8, i_lt, hi2, i_0l, h00, ho]
      · have h00 : 0 < i := by omega
        have f5 := (c9 (i - 1) (by omega)).2.2.2
        have f6 := (hW.2.2.2.2.2.2.2.2 (i - 1) (by omega)).2.2.2.2.1
        rw [show 4 * (i - 1) + 3 = 4 * i - 1 by omega] at f5
        by_cases h9 : S 9 i = S 9 (i - 1)
        · have ho : opn S i = false := by unfold opn; exact decide_eq_false (by omega)
          simp (disch := omega) only [s_147_5, s_147_6, s_147_9, s_147_12, s_147_13, s_147_16, s_147_17, s_147_20, s_147_21, s_147_22, s_147_23, s_147_24, s_147_25, s_147_26, s_147_27, s_147_30, s_147_31, s_147_32, s_147_33, s_147_34, s_147_35, s_147_36, s_147_39, s_147_40, s_147_43, ↓reduceIte, c8, i_lt, hi2, i_0l, h00, ho, i_mul, i_add, i_sub, i_in, i_cl, true_and, f4, f5, i_eq, h9, Bool.false_eq_true]
        · have ho : opn S i = true := by unfold opn; exact decide_eq_true (Or.inr h9)
          simp (disch := omega) only [s_147_5, s_147_6, s_147_9, s_147_12, s_147_13, s_147_16, s_147_17, s_147_20, s_147_21, s_147_22, s_147_23, s_147_24, s_147_25, s_147_26, s_147_27, s_147_30, s_147_31, s_147_32, s_147_33, s_147_34, s_147_35, s_147_36, s_147_39, s_147_40, s_147_43, ↓reduceIte, c8, i_lt, hi2, i_0l, h00, ho, i_mul, i_add, i_sub, i_in, i_cl, true_and, f4, f5, i_eq, h9]
    unfold gw
    simp only [bz_ab]
    generalize hg : (if opn S i = true then 0 else bz) = g at ob st ⊢
    have oc : g &&& (2 ^ S 6 i ||| 2 ^ S 7 i) < 2147483648 := Nat.lt_of_le_of_lt Nat.and_le_left (by omega)
    have hmb : ∀ d Q, Go (d + 1) 137 0 [some (.ref 53), some (.int (nI (S 6 i))), some (.int (nI (S 7 i))), some (.int (nI (S 8 i)))] [] (HP lx xs M) Q = Q (some (.int (bI (al S (S 6 i) (S 7 i) (S 8 i))))) (HP lx xs M) := fun d Q => c_X7_mayBe hC' hW (by omega : S 6 i < 6) (by omega : S 7 i < 6) pt
    by_cases hh : (g &&& (2 ^ S 6 i ||| 2 ^ S 7 i) = 0 ∧ ab.testBit (S 6 i) = false ∧ ab.testBit (S 7 i) = false) ∧ al S (S 6 i) (S 7 i) (S 8 i) = true
    · rw [if_pos hh]
      obtain ⟨⟨h1, h2, h3⟩, h4⟩ := hh
      obtain ⟨M1, q1, q2, q3⟩ := ih (i + 1) (g ||| (2 ^ S 6 i ||| 2 ^ S 7 i)) (upS S 2 (S 7 i * 4 + S 8 i) 0) (WF_say hW (by decide) _) (by rw [upS_row (by decide)]; omega) (Nat.or_lt_two_pow (n := 6) ob tw) (up M 56 (S 7 i * 4 + S 8 i) (nI 0)) (RepM_say hC' _)
      refine ⟨M1, fun c hc => (q1 c hc).trans (up_ne _ _ _ hc), q2, fun d Q o4 o5 o6 => ?_⟩
      rw [st]
      rw [Nat.mul_comm (S 7 i) 4] at q3
      rw [h2, Bool.false_eq_true] at xa
      rw [h3, Bool.false_eq_true] at xb
      simp (disch := omega) only [s_147_44, s_147_45, s_147_46, s_147_49, s_147_50, s_147_51, s_147_52, s_147_53, s_147_55, s_147_56, s_147_59, s_147_60, s_147_61, s_147_62, s_147_63, s_147_64, s_147_65, s_147_67, s_147_68, s_147_70, s_147_71, s_147_72, s_147_74, s_147_75, s_147_76, s_147_78, s_147_79, s_147_81, s_147_82, s_147_85, s_147_87, s_147_88, s_147_91, s_147_93, s_147_94, s_147_97, s_147_98, s_147_100, s_147_102, s_147_103, s_147_106, s_147_107, s_147_108, s_147_109, s_147_110, s_147_111, s_147_112, s_147_115, s_147_118, s_147_119, s_147_121, s_147_122, s_147_123, s_147_124, s_147_127, s_147_128, s_147_130, s_147_131, s_147_132, s_147_135, s_147_136, s_147_137, s_147_138, s_147_139, s_147_140, s_147_141, s_147_142, s_147_143, s_147_144, s_147_147, ↓reduceIte, i_mul, i_add, i_in, i_cl, true_and, f1, f2, f3, i_1s, i_or, i_and, i_e0, h1, xa, xb, hmb, h4, ap_some, bI_0, Bool.true_eq_false, q3]
    · rw [if_neg hh]
      obtain ⟨M1, q1, q2, q3⟩ := ih (i + 1) g S hW (by omega) ob M hC'
      refine ⟨M1, q1, q2, fun d Q o4 o5 o6 => ?_⟩
      rw [st]
      by_cases h1 : g &&& (2 ^ S 6 i ||| 2 ^ S 7 i) = 0
      · by_cases h2 : ab.testBit (S 6 i) = true
        · rw [h2, eq_self] at xa
          simp (disch := omega) only [s_147_44, s_147_45, s_147_46, s_147_49, s_147_50, s_147_51, s_147_52, s_147_53, s_147_55, s_147_56, s_147_59, s_147_60, s_147_61, s_147_62, s_147_63, s_147_64, s_147_65, s_147_67, s_147_68, s_147_70, s_147_71, s_147_72, s_147_74, s_147_75, s_147_76, s_147_78, s_147_79, s_147_81, s_147_82, s_147_85, s_147_87, s_147_88, s_147_144, s_147_147, ↓reduceIte, i_mul, i_add, i_in, i_cl, true_and, f1, f2, f3, i_1s, i_or, i_and, i_e0, h1, xa, q3]
        · have h2' := h2
          rw [Bool.not_eq_true] at h2
          rw [eq_false h2'] at xa
          by_cases h3 : ab.testBit (S 7 i) = true
          · rw [h3, eq_self] at xb
            simp (disch := omega) only [s_147_44, s_147_45, s_147_46, s_147_49, s_147_50, s_147_51, s_147_52, s_147_53, s_147_55, s_147_56, s_147_59, s_147_60, s_147_61, s_147_62, s_147_63, s_147_64, s_147_65, s_147_67, s_147_68, s_147_70, s_147_71, s_147_72, s_147_74, s_147_75, s_147_76, s_147_78, s_147_79, s_147_81, s_147_82, s_147_85, s_147_87, s_147_88, s_147_91, s_147_93, s_147_94, s_147_144, s_147_147, ↓reduceIte, i_mul, i_add, i_in, i_cl, true_and, f1, f2, f3, i_1s, i_or, i_and, i_e0, h1, xa, xb, q3]
          · have h3' := h3
            rw [Bool.not_eq_true] at h3
            rw [eq_false h3'] at xb
            have h4 : al S (S 6 i) (S 7 i) (S 8 i) = false := by
              cases h5 : al S (S 6 i) (S 7 i) (S 8 i)
              · rfl
              · exact absurd ⟨⟨h1, h2, h3⟩, h5⟩ hh
            simp (disch := omega) only [s_147_44, s_147_45, s_147_46, s_147_49, s_147_50, s_147_51, s_147_52, s_147_53, s_147_55, s_147_56, s_147_59, s_147_60, s_147_61, s_147_62, s_147_63, s_147_64, s_147_65, s_147_67, s_147_68, s_147_70, s_147_71, s_147_72, s_147_74, s_147_75, s_147_76, s_147_78, s_147_79, s_147_81, s_147_82, s_147_85, s_147_87, s_147_88, s_147_91, s_147_93, s_147_94, s_147_97, s_147_98, s_147_100, s_147_102, s_147_103, s_147_106, s_147_107, s_147_108, s_147_109, s_147_110, s_147_111, s_147_112, s_147_115, s_147_144, s_147_147, ↓reduceIte, i_mul, i_add, i_in, i_cl, true_and, f1, f2, f3, i_1s, i_or, i_and, i_e0, h1, xa, xb, hmb, h4, ap_some, bI_0, q3]
      · simp (disch := omega) only [s_147_44, s_147_45, s_147_46, s_147_49, s_147_50, s_147_51, s_147_52, s_147_53, s_147_55, s_147_56, s_147_59, s_147_60, s_147_61, s_147_62, s_147_63, s_147_64, s_147_65, s_147_67, s_147_68, s_147_70, s_147_71, s_147_72, s_147_74, s_147_75, s_147_76, s_147_78, s_147_79, s_147_81, s_147_82, s_147_144, s_147_147, ↓reduceIte, i_mul, i_add, i_in, i_cl, true_and, f1, f2, f3, i_1s, i_or, i_and, i_e0, h1, q3]
theorem c_X7_goWithout (hx : ∀ a, a < 6 → (nI a = x) = (ab.testBit a = true)) (hW : WF S) (hC : RepM M S) : ∃ M1, (∀ c, c ≠ 56 → M1 c = M c) ∧ RepM M1 (gw ab (S 5 0) 0 0 S) ∧ ∀ d Q, Go (d + 2) 147 0 [some (.ref 53), some (.int x), none, none, none, none, none] [] (HP lx xs M) Q = Q none (HP lx xs M1) := by
  obtain ⟨M1, q1, q2, q3⟩ := ll_X7_goWithout (lx := lx) (xs := xs) hx (S 5 0) 0 0 S hW (by omega) (by decide) M hC
  refine ⟨M1, q1, q2, fun d Q => ?_⟩
  simp only [s_147_0, s_147_1, s_147_2, s_147_3]
  exact q3 d Q none none none
theorem c_X7_bringBack : Go d 148 0 [some (.ref 53), none] [] (HP lx xs M) Q = Q none (HP lx xs (upr M 56 (mix (M 56) (M 66) 24))) := by
  rw [s_148_0, s_148_1]
  have l := loopN (fun j => Go d 148 2 [some (.ref 53), some (.int (nI j))] [] (HP lx xs (upr M 56 (mix (M 56) (M 66) j))) Q) 24 fun j hj => by
    show Go d _ 2 _ _ _ _ = Go d _ 2 _ _ _ _
    rw [s_148_2]
    simp (disch := omega) only [s_148_0, s_148_1, s_148_3, s_148_5, s_148_8, s_148_9, s_148_12, s_148_13, s_148_14, s_148_17, s_148_18, s_148_19, s_148_20, s_148_23, s_148_26, ↓reduceIte, i_lt, hj, i_in, i_cl, true_and, upr_ne, up_upr, mix_up, i_add]
  rw [mix_0, upr_self] at l
  refine l.trans ?_
  show Go d _ 2 _ _ _ _ = _
  rw [s_148_2]
  simp (disch := omega) only [s_148_0, s_148_1, s_148_3, s_148_5, s_148_8, s_148_9, s_148_12, s_148_13, s_148_14, s_148_17, s_148_18, s_148_19, s_148_20, s_148_23, s_148_26, ↓reduceIte, i_lt, Nat.lt_irrefl]
/-- as much is known behind the plan without x -/
def gd (W X : Nat → Nat) (x n : Nat) : Bool := decide (∀ c, c < n → c = x ∨ wo (W c) (X c) = 0)
theorem gd_s (W X : Nat → Nat) (x n : Nat) : gd W X x (n + 1) = (gd W X x n && (decide (n = x) || decide (wo (W n) (X n) = 0))) := by
  unfold gd
  rw [Bool.eq_iff_iff]
  simp only [Bool.and_eq_true, Bool.or_eq_true, decide_eq_true_eq]
  constructor
  · intro h; exact ⟨fun c hc => h c (by omega), h n (by omega)⟩
  · rintro ⟨h1, h2⟩ c hc
    by_cases e : c = n
    · subst e; exact h2
    · exact h1 c (by omega)
def spS (S : Nat → Nat → Nat) : Nat → Nat
  | 0 => 0
  | m + 1 => spS S m ||| if gd (kn (gw 0 (S 5 0) 0 0 S 2)) (kn (gw (2 ^ m) (S 5 0) 0 0 S 2)) m (S 0 0) = true then 2 ^ m else 0
theorem c_X3_trial {W X : Nat → Nat} (hW : ∀ c, W c < 16) (hn : n ≤ 6) (h0 : M 2 0 = nI n) (h1 : ∀ c, c < n → M 11 c = nI (W c)) (h2 : ∀ c, c < n → M 12 c = nI (X c)) (hc : c < n) : Go d 72 0 [some (.ref 2), some (.int (nI c)), none] [] (HP lx xs M) Q = Q (some (.int (bI (gd W X c n)))) (HP lx xs M) := by
  have key : ∀ m j, j + m = n → gd W X c j = true → Go d 72 2 [some (.ref 2), some (.int (nI c)), some (.int (nI j))] [] (HP lx xs M) Q = Q (some (.int (bI (gd W X c n)))) (HP lx xs M) := by
    intro m
    induction m with
    | zero =>
      intro j hj hg
      have e : j = n := by omega
      subst e
      rw [s_72_2, hg]
      simp (disch := omega) only [s_72_0, s_72_1, s_72_3, s_72_4, s_72_7, s_72_10, s_72_11, s_72_12, s_72_15, s_72_16, s_72_19, s_72_20, s_72_21, s_72_22, s_72_25, s_72_26, s_72_27, s_72_28, s_72_29, s_72_30, s_72_33, s_72_34_0, s_72_34_1, sb_72_34, s_72_35, s_72_38, s_72_41, s_72_42_0, s_72_42_1, sb_72_42, ↓reduceIte, h0, i_lt, Nat.lt_irrefl, bI_t]
    | succ m ih =>
      intro j hj hg
      have hj2 : j < n := by omega
      have f1 := h1 j hj2
      have f2 := h2 j hj2
      have f3 : wo (W j) (X j) < 2147483648 := wo_lt (by have := hW j; omega)
      have gs := gd_s W X c j
      rw [hg, Bool.true_and] at gs
      rw [s_72_2]
      by_cases e : j = c
      · rw [decide_eq_true e, Bool.true_or] at gs
        have := ih (j + 1) (by omega) gs
        simp (disch := omega) only [s_72_0, s_72_1, s_72_3, s_72_4, s_72_7, s_72_10, s_72_11, s_72_12, s_72_15, s_72_16, s_72_19, s_72_20, s_72_21, s_72_22, s_72_25, s_72_26, s_72_27, s_72_28, s_72_29, s_72_30, s_72_33, s_72_34_0, s_72_34_1, sb_72_34, s_72_35, s_72_38, s_72_41, s_72_42_0, s_72_42_1, sb_72_42, ↓reduceIte, h0, i_lt, hc, i_eq, e, i_add]
        rw [e] at this; exact this
      · by_cases e2 : wo (W j) (X j) = 0
        · rw [decide_eq_true e2, Bool.or_true] at gs
          have := ih (j + 1) (by omega) gs
          simp (disch := omega) only [s_72_0, s_72_1, s_72_3, s_72_4, s_72_7, s_72_10, s_72_11, s_72_12, s_72_15, s_72_16, s_72_19, s_72_20, s_72_21, s_72_22, s_72_25, s_72_26, s_72_27, s_72_28, s_72_29, s_72_30, s_72_33, s_72_34_0, s_72_34_1, sb_72_34, s_72_35, s_72_38, s_72_41, s_72_42_0, s_72_42_1, sb_72_42, ↓reduceIte, h0, i_lt, hj2, i_eq, e, i_in, i_cl, true_and, f1, f2, i_wo, i_e0, e2, i_add, this]
        · have hf : gd W X c n = false := by
            unfold gd
            refine decide_eq_false fun q => ?_
            rcases q j hj2 with q | q
            · exact e q
            · exact e2 q
          rw [hf]
          simp (disch := omega) only [s_72_0, s_72_1, s_72_3, s_72_4, s_72_7, s_72_10, s_72_11, s_72_12, s_72_15, s_72_16, s_72_19, s_72_20, s_72_21, s_72_22, s_72_25, s_72_26, s_72_27, s_72_28, s_72_29, s_72_30, s_72_33, s_72_34_0, s_72_34_1, sb_72_34, s_72_35, s_72_38, s_72_41, s_72_42_0, s_72_42_1, sb_72_42, ↓reduceIte, h0, i_lt, hj2, i_eq, e, i_in, i_cl, true_and, f1, f2, i_wo, i_e0, e2, bI_f]
  rw [s_72_0, s_72_1]
  exact key n 0 (by omega) (by unfold gd; exact decide_eq_true (fun c hc => by omega))
end SQ
