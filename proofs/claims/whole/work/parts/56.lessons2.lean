/-! lessons: both alike -/
theorem m1_ne {c : Nat} (hc : c < 2147483648) : (nI c = -1) = False := by
  apply eq_false
  intro h
  have := congrArg Int32.toInt h
  rw [i_int hc, show (-1 : Int32).toInt = -1 by decide] at this
  omega
section LF
variable {d : Nat} {Q : Option Value → ex_H → Prop} {lx : Nat} {xs : Nat → Int32} {M M1 : Nat → Nat → Int32} {x y z u : Int32} {S : Nat → Nat → Nat} {a b c i j k n s t w q nn : Nat}
theorem ll_X7_lesson_all (hW : WF S) (hC : RepM M S) : ∀ m k, k + m = S 0 0 * S 0 0 * 4 → ∀ o4 o5 d Q, Go (d + 2) 157 4 [some (.ref 53), some (.int (-1)), some (.int (nI (ls (g7 S) k).length)), some (.int (nI k)), o4, o5] [] (HP lx xs M) Q = Q (some (.int (nI (ls (g7 S) (S 0 0 * S 0 0 * 4)).length))) (HP lx xs M) := by
  have w1 := hW.1
  have hN : S 0 0 * S 0 0 * 4 ≤ 144 := by
    have := Nat.mul_le_mul w1 w1
    omega
  intro m
  induction m with
  | zero =>
    intro k hk o4 o5 d Q
    have e : k = S 0 0 * S 0 0 * 4 := by omega
    subst e
    have c1 := hC.1
    rw [s_157_4]
    simp (disch := omega) only [s_157_5, s_157_6, s_157_9, s_157_10, s_157_13, s_157_14, s_157_15, s_157_16, s_157_87, s_157_88, ↓reduceIte, c1, i_mul, i_lt, Nat.lt_irrefl]
  | succ m ih =>
    intro k hk o4 o5 d Q
    have hle := ls_le (g7 S) k
    have ih2 := ih (k + 1) (by omega) (some (.int (nI (k / 4 / S 0 0)))) (some (.int (nI (k / 4 % S 0 0)))) d Q
    rw [l_X7_lesson hW hC (by omega) hle]
    by_cases h : g7 S k = true
    · rw [ls_s, if_pos h, List.length_append] at ih2
      rw [if_pos h, if_neg (by rw [m1_ne (by omega)]; exact id)]
      exact ih2
    · rw [ls_s, if_neg h] at ih2
      rw [if_neg h]
      exact ih2
theorem ll_X7_lesson_at (hW : WF S) (hC : RepM M S) (hj : j < S 0 0 * S 0 0 * 4) (hg : g7 S j = true) (hw : (ls (g7 S) j).length = w) : ∀ m k, k + m = j → ∀ o4 o5 d Q, Go (d + 2) 157 4 [some (.ref 53), some (.int (nI w)), some (.int (nI (ls (g7 S) k).length)), some (.int (nI k)), o4, o5] [] (HP lx xs M) Q = Go (d + 2) 157 65 [some (.ref 53), some (.int (nI w)), some (.int (nI w)), some (.int (nI j)), some (.int (nI (j / 4 / S 0 0))), some (.int (nI (j / 4 % S 0 0)))] [] (HP lx xs M) Q := by
  have w1 := hW.1
  have hN : S 0 0 * S 0 0 * 4 ≤ 144 := by
    have := Nat.mul_le_mul w1 w1
    omega
  have hwj := ls_le (g7 S) j
  intro m
  induction m with
  | zero =>
    intro k hk o4 o5 d Q
    have e : k = j := by omega
    subst e
    rw [l_X7_lesson hW hC hj hwj, if_pos hg, if_pos (by rw [hw]), hw]
  | succ m ih =>
    intro k hk o4 o5 d Q
    have hle := ls_le (g7 S) k
    have hmo := ls_mono (g7 S) (by omega : k + 1 ≤ j)
    have ih2 := ih (k + 1) (by omega) (some (.int (nI (k / 4 / S 0 0)))) (some (.int (nI (k / 4 % S 0 0)))) d Q
    rw [l_X7_lesson hW hC (by omega) hle]
    by_cases h : g7 S k = true
    · rw [ls_s, if_pos h, List.length_append] at ih2 hmo
      have e1 : [k].length = 1 := rfl
      rw [if_pos h, if_neg (by rw [i_eq (by omega) (by omega)]; omega)]
      exact ih2
    · rw [ls_s, if_neg h] at ih2
      rw [if_neg h]
      exact ih2
/-- one lesson -/
theorem le_both (hW : WF S) : (ls (g6 S) 144 = [] ∧ (∀ lx xs M, RepC M 2 S → KB M 5 → ∃ M1, RepC M1 2 S ∧ KB M1 5 ∧ frC M M1 ∧ ∀ d Q, Go (d + 3) 74 0 [some (.ref 2), none] [] (HP lx xs M) Q = Q (some (.int (nI 0))) (HP lx xs M1)) ∧ (∀ lx xs M, RepM M S → ∀ d Q, Go (d + 2) 157 0 [some (.ref 53), some (.int (-1)), none, none, none, none] [] (HP lx xs M) Q = Q (some (.int (nI 0))) (HP lx xs M))) ∨
  (∃ (N : Nat) (S1 : Nat → Nat → Nat), 0 < N ∧ N ≤ 144 ∧ WF S1 ∧ (∀ lx xs M, RepC M 2 S → KB M 5 → ∃ M1, RepC M1 2 S1 ∧ KB M1 5 ∧ frC M M1 ∧ ∀ d Q, Go (d + 3) 74 0 [some (.ref 2), none] [] (HP lx xs M) Q = Q (some (.int (nI 1))) (HP lx xs M1)) ∧ (∀ lx xs M, RepM M S → ∀ d Q, Go (d + 2) 157 0 [some (.ref 53), some (.int (-1)), none, none, none, none] [] (HP lx xs M) Q = Q (some (.int (nI N))) (HP lx xs M)) ∧ (∀ lx xs M, RepM M (upS S 0 2 (nd (S 0 2))) → ∃ M1, RepM M1 S1 ∧ frM M M1 ∧ ∃ v, ∀ d Q, Go (d + 2) 157 0 [some (.ref 53), some (.int (nI (nd (S 0 2) / 65536 % N))), none, none, none, none] [] (HP lx xs M) Q = Q (some (.int v)) (HP lx xs M1))) := by
  have w1 := hW.1
  have hlen : (ls (g6 S) 144).length = (ls (g7 S) (S 0 0 * S 0 0 * 4)).length := by rw [g67 w1, List.length_map]
  have hle := ls_le (g6 S) 144
  have all7 : ∀ lx xs M, RepM M S → ∀ d Q, Go (d + 2) 157 0 [some (.ref 53), some (.int (-1)), none, none, none, none] [] (HP lx xs M) Q = Q (some (.int (nI (ls (g6 S) 144).length))) (HP lx xs M) := fun lx xs M hC d Q => by
    rw [hlen]
    simp only [s_157_0, s_157_1, s_157_2, s_157_3]
    exact ll_X7_lesson_all hW hC (S 0 0 * S 0 0 * 4) 0 (Nat.zero_add _) none none d Q
  have all6 : ∀ lx xs M, RepC M 2 S → ∃ M1, (∀ c, c ≠ 13 → M1 c = M c) ∧ (∀ j v, (ls (g6 S) 144)[j]? = some v → M1 13 j = nI v) ∧ ∀ d Q, Go (d + 2) 75 0 [some (.ref 2), none, none] [] (HP lx xs M) Q = Q (some (.int (nI (ls (g6 S) 144).length))) (HP lx xs M1) := fun lx xs M hC => by
    obtain ⟨M1, r1, r2, r3⟩ := ll_X3_listChoices (lx := lx) (xs := xs) hW 144 0 M (by omega) hC (fun j v hj => by cases hj)
    refine ⟨M1, r1, r2, fun d Q => ?_⟩
    simp only [s_75_0, s_75_1, s_75_2, s_75_3]
    exact r3 d Q
  by_cases h0 : (ls (g6 S) 144).length = 0
  · left
    refine ⟨List.length_eq_zero_iff.mp h0, fun lx xs M hC hB => ?_, fun lx xs M hC d Q => by rw [all7 lx xs M hC, h0]⟩
    obtain ⟨M1, r1, r2, r3⟩ := all6 lx xs M hC
    refine ⟨M1, RepC_eq hC fun c q1 q2 => r1 c (by omega), fun i hi => by rw [r1 5 (by decide)]; exact hB i hi, fun c hc => r1 c (by unfold prC at hc; omega), fun d Q => ?_⟩
    rw [h0] at r3
    simp only [s_74_0, s_74_1, s_74_4, s_74_5, s_74_6, s_74_9, s_74_10_0, s_74_10_1, sb_74_10, s_74_11, s_74_12, s_74_13, s_74_16, s_74_18, s_74_19, s_74_22, s_74_23, s_74_25, s_74_26, s_74_29, s_74_30, s_74_31, s_74_34, s_74_35, s_74_38, s_74_40, s_74_41, s_74_42, s_74_43, s_74_44, s_74_47, s_74_48_0, s_74_48_1, sb_74_48, ↓reduceIte, r3, ap_some, n0_0]
  · right
    have hw : nd (S 0 2) / 65536 % (ls (g6 S) 144).length < (ls (g6 S) 144).length := Nat.mod_lt _ (by omega)
    have hw7 := hw
    rw [hlen] at hw7
    obtain ⟨j, hj, hg, hjl⟩ := ls_ex _ hw7
    obtain ⟨hn0, ha, hb⟩ := k_ab w1 hj
    have hat := ls_at hg _ hj
    have hat6 : (ls (g6 S) 144)[nd (S 0 2) / 65536 % (ls (g6 S) 144).length]? = some (phi (S 0 0) j) := by
      rw [hlen, ← hjl, g67 w1, List.getElem?_map, hat]
      rfl
    have hal : al S (j / 4 / S 0 0) (j / 4 % S 0 0) (j % 4) = true := by
      unfold g7 at hg
      exact (Bool.and_eq_true_iff.mp hg).2
    have hk := al_k hal
    have hD := nd_lt (S 0 2)
    have hWd : WF (upS S 0 2 (nd (S 0 2))) := WF_draw hW hD
    have hk' : upS S 0 2 (nd (S 0 2)) 2 (j / 4 / S 0 0 * 4 + j % 4) < 97 := by rw [upS_row (by decide)]; exact hk
    have h00 : upS S 0 2 (nd (S 0 2)) 0 0 = S 0 0 := upS_off (by omega)
    refine ⟨(ls (g6 S) 144).length, tch (upS S 0 2 (nd (S 0 2))) (j / 4 / S 0 0) (j / 4 % S 0 0) (j % 4), by omega, hle, tch_WF hWd hk', fun lx xs M hC hB => ?_, all7, fun lx xs M hC => ?_⟩
    · obtain ⟨M1, r1, r2, r3⟩ := all6 lx xs M hC
      have hC1 : RepC M1 2 S := RepC_eq hC fun c q1 q2 => r1 c (by omega)
      have hB1 : KB M1 5 := fun i hi => by rw [r1 5 (by decide)]; exact hB i hi
      have hC2 : RepC (up M1 2 2 (nI (nd (S 0 2)))) 2 (upS S 0 2 (nd (S 0 2))) := RepC_draw hC1
      obtain ⟨M2, s1, s2, s3, s4⟩ := c_X3_performX (lx := lx) (xs := xs) hC2 hWd (by rw [h00]; exact ha) (by rw [h00]; exact hb) (by omega : j % 4 < 4) hk' (KB_ne hB1 _ _ (by decide))
      refine ⟨M2, s1, s2, fun c hc => (s3 c (by unfold prC at hc; omega) (by unfold prC at hc; omega) (by unfold prC at hc; omega)).trans ((up_ne _ _ _ (by unfold prC at hc; omega)).trans (r1 c (by unfold prC at hc; omega))), fun d Q => ?_⟩
      have e2 : M1 2 2 = nI (S 0 2) := hC1.2.2.1
      have ech := r2 _ _ hat6
      have e1 : nI (S 0 2 * 1103515245 + 12345 &&& 2147483647) = nI (nd (S 0 2)) := rfl
      have e3 : ¬ nI (ls (g6 S) 144).length = 0 := by rw [i_e0 (by omega)]; exact h0
      have e4 : nI (nd (S 0 2)) / nI 65536 = nI (nd (S 0 2) / 65536) := i_div hD (by decide) (by decide)
      have e5 : nI (nd (S 0 2) / 65536) - nI (nd (S 0 2) / 65536) / nI (ls (g6 S) 144).length * nI (ls (g6 S) 144).length = nI (nd (S 0 2) / 65536 % (ls (g6 S) 144).length) := i_rem (by omega) (by omega) (by omega)
      have e6 : ¬ nI 65536 = 0 := by decide
      unfold phi at ech
      generalize hgw : nd (S 0 2) / 65536 % (ls (g6 S) 144).length = w at *
      have hw9 : w < 144 := by omega
      simp (disch := first | omega | assumption) only [s_74_0, s_74_1, s_74_4, s_74_5, s_74_6, s_74_9, s_74_10_0, s_74_10_1, sb_74_10, s_74_11, s_74_12, s_74_13, s_74_16, s_74_18, s_74_19, s_74_22, s_74_23, s_74_25, s_74_26, ↓reduceIte, r3, ap_some, e3, e2, i_mul, i_add, i_and, e1]
      simp (disch := first | omega | assumption) only [s_74_29, s_74_30, s_74_31, s_74_34, s_74_35, s_74_38, s_74_40, s_74_41, s_74_42, s_74_43, s_74_44, s_74_47, s_74_48_0, s_74_48_1, sb_74_48, ↓reduceIte, up_at, e6, e3, not_false_eq_true, true_and, e4, e5, i_in, i_cl, up_ne, ech, s4, ap_none]
    · obtain ⟨M1, r1, r2, r3⟩ := c_X7_teachNow (lx := lx) (xs := xs) hC hWd (by omega : j / 4 / S 0 0 < 6) (by omega : j / 4 % S 0 0 < 6) (by omega : j % 4 < 4) hk'
      refine ⟨M1, r1, r2, nI (nd (S 0 2) / 65536 % (ls (g6 S) 144).length), fun d Q => ?_⟩
      have eg : ∀ k, g7 (upS S 0 2 (nd (S 0 2))) k = g7 S k := fun k => by unfold g7; rw [h00, al_draw]
      have ef : g7 (upS S 0 2 (nd (S 0 2))) = g7 S := funext eg
      have hN : S 0 0 * S 0 0 * 4 ≤ 144 := by
        have := Nat.mul_le_mul w1 w1
        omega
      have q := ll_X7_lesson_at (lx := lx) (xs := xs) (M := M) (j := j) (w := nd (S 0 2) / 65536 % (ls (g6 S) 144).length) hWd hC (by rw [h00]; exact hj) (by rw [ef]; exact hg) (by rw [ef, hjl, hlen]) j 0 (by omega) none none d Q
      rw [h00] at q
      simp only [s_157_0, s_157_1, s_157_2, s_157_3]
      refine Eq.trans q ?_
      have e4 : ¬ nI 4 = 0 := by decide
      have e5 : nI j - nI j / nI 4 * nI 4 = nI (j % 4) := i_rem (by omega) (by omega) (by omega)
      simp (disch := omega) only [s_157_65, s_157_66, s_157_68, s_157_70, s_157_71, s_157_72, s_157_73, s_157_76, s_157_77, ↓reduceIte, e4, not_false_eq_true, true_and, e5, r3, ap_none]
theorem ln_both : ∀ (m k : Nat) (S : Nat → Nat → Nat), WF S → k + m = nn → nn ≤ 60 → ∃ (ans : Int32) (S1 : Nat → Nat → Nat), WF S1 ∧
  (∀ lx xs M, RepC M 2 S → KB M 5 → ∃ M1, RepC M1 2 S1 ∧ KB M1 5 ∧ frC M M1 ∧ ∀ d Q, Go (d + 4) 35 15 [some (.ref 1), some (.int (nI nn)), some (.int (nI k))] [] (HP lx xs M) Q = Q (some (.int ans)) (HP lx xs M1)) ∧
  (∀ lx xs M, RepM M S → ∃ M1, RepM M1 S1 ∧ frM M M1 ∧ ∀ d Q o3, Go (d + 3) 158 16 [some (.ref 53), some (.int (nI nn)), some (.int (nI k)), o3] [] (HP lx xs M) Q = Q (some (.int ans)) (HP lx xs M1)) := by
  intro m
  induction m with
  | zero =>
    intro k S hW hk h60
    have e : k = nn := by omega
    subst e
    refine ⟨nI k, S, hW, fun lx xs M hC hB => ⟨M, hC, hB, frC.rf M, fun d Q => ?_⟩, fun lx xs M hC => ⟨M, hC, frM.rf M, fun d Q o3 => ?_⟩⟩
    · rw [s_35_15]
      simp (disch := omega) only [s_35_16, s_35_17, s_35_20, s_35_21, s_35_24, s_35_27, s_35_30, s_35_33, s_35_36, s_35_37, ↓reduceIte, i_lt, Nat.lt_irrefl]
    · rw [s_158_16]
      simp (disch := omega) only [s_158_17, s_158_18, s_158_21, s_158_22, s_158_23, s_158_26, s_158_27, s_158_28, s_158_31, s_158_32, s_158_33, s_158_34, s_158_35, s_158_38, s_158_39, s_158_42, s_158_43, s_158_46, s_158_47, s_158_50, s_158_51, s_158_52, s_158_55, s_158_56, s_158_57, s_158_60, s_158_62, s_158_63, s_158_64, s_158_65, s_158_68, s_158_69, s_158_72, s_158_75, s_158_76, ↓reduceIte, i_lt, Nat.lt_irrefl]
  | succ m ih =>
    intro k S hW hk h60
    have hkn : k < nn := by omega
    rcases le_both hW with ⟨h0, r6, r7⟩ | ⟨N, S1, hN0, hN, W1, r6, r7, r8⟩
    · refine ⟨nI k, S, hW, fun lx xs M hC hB => ?_, fun lx xs M hC => ⟨M, hC, frM.rf M, fun d Q o3 => ?_⟩⟩
      · obtain ⟨M1, q1, q2, q3, q4⟩ := r6 lx xs M hC hB
        refine ⟨M1, q1, q2, q3, fun d Q => ?_⟩
        rw [s_35_15]
        simp (disch := omega) only [s_35_16, s_35_17, s_35_20, s_35_21, s_35_24, s_35_27, s_35_30, s_35_33, s_35_36, s_35_37, ↓reduceIte, i_lt, hkn, q4, ap_some, n0_0]
      · rw [s_158_16]
        simp (disch := omega) only [s_158_17, s_158_18, s_158_21, s_158_22, s_158_23, s_158_26, s_158_27, s_158_28, s_158_31, s_158_32, s_158_33, s_158_34, s_158_35, s_158_38, s_158_39, s_158_42, s_158_43, s_158_46, s_158_47, s_158_50, s_158_51, s_158_52, s_158_55, s_158_56, s_158_57, s_158_60, s_158_62, s_158_63, s_158_64, s_158_65, s_158_68, s_158_69, s_158_72, s_158_75, s_158_76, ↓reduceIte, i_lt, hkn, r7 lx xs M hC, ap_some, n0_0]
    · obtain ⟨ans, S2, W2, t6, t7⟩ := ih (k + 1) S1 W1 (by omega) h60
      refine ⟨ans, S2, W2, fun lx xs M hC hB => ?_, fun lx xs M hC => ?_⟩
      · obtain ⟨M1, q1, q2, q3, q4⟩ := r6 lx xs M hC hB
        obtain ⟨M2, s1, s2, s3, s4⟩ := t6 lx xs M1 q1 q2
        refine ⟨M2, s1, s2, q3.tr s3, fun d Q => ?_⟩
        rw [s_35_15]
        simp (disch := omega) only [s_35_16, s_35_17, s_35_20, s_35_21, s_35_24, s_35_27, s_35_30, s_35_33, ↓reduceIte, i_lt, hkn, q4, ap_some, n1_0, i_add]
        exact s4 d Q
      · have hD := nd_lt (S 0 2)
        have hD0 := hW.2.2.1.1
        obtain ⟨M1, q1, q3, v, q4⟩ := r8 lx xs (up M 53 8 (nI (nd (S 0 2)))) (RepM_draw hC)
        obtain ⟨M2, s1, s3, s4⟩ := t7 lx xs M1 q1
        refine ⟨M2, s1, ((frM_up53 (frM.rf M) 8 _ (by decide)).tr q3).tr s3, fun d Q o3 => ?_⟩
        have e2 : M 53 8 = nI (S 0 2) := hC.2.2.1
        have e0 : (nI (S 0 2)).toInt64 = lN (S 0 2) := nI_l hD0
        have e1 : nI (S 0 2 * 1103515245 + 12345 &&& 2147483647) = nI (nd (S 0 2)) := rfl
        have e3 : ¬ nI N = 0 := by rw [i_e0 (by omega)]; omega
        have e4 : nI (nd (S 0 2)) / nI 65536 = nI (nd (S 0 2) / 65536) := i_div hD (by decide) (by decide)
        have e5 : nI (nd (S 0 2) / 65536) - nI (nd (S 0 2) / 65536) / nI N * nI N = nI (nd (S 0 2) / 65536 % N) := i_rem (by omega) (by omega) (by omega)
        have e6 : ¬ nI 65536 = 0 := by decide
        rw [s_158_16]
        simp (disch := omega) only [s_158_17, s_158_18, s_158_21, s_158_22, s_158_23, s_158_26, s_158_27, s_158_28, s_158_31, s_158_32, s_158_33, s_158_34, s_158_35, s_158_38, s_158_39, s_158_42, s_158_43, s_158_46, s_158_47, s_158_50, s_158_51, s_158_52, ↓reduceIte, i_lt, hkn, r7 lx xs M hC, ap_some, e3, e2, e0, lN_mul, lN_add, l_and, lN_i, e1]
        simp (disch := omega) only [s_158_55, s_158_56, s_158_57, s_158_60, s_158_62, s_158_63, s_158_64, s_158_65, s_158_68, s_158_69, s_158_72, ↓reduceIte, up_at, e6, e3, not_false_eq_true, true_and, e4, e5, q4, ap_some, i_add]
        exact s4 d Q _
theorem op_lessons (hW : WF S) : opS 35 158 [some (.ref 1), some (.int x), none] [some (.ref 53), some (.int x), none, none] S := by
  have c1 : (x < nI 1) = (x.toInt < 1) := x_ln x (by decide)
  have c60 : (nI 60 < x) = (60 < x.toInt) := x_nl x (by decide)
  have i60 : ∀ d h Q, Go d 114 0 [some (.long x.toInt64), none, some (.long (lN 1)), none, some (.long (lN 60)), none] [] h Q = Q (some (.int (bI (decide (1 ≤ x.toInt ∧ x.toInt ≤ 60))))) h := fun d h Q => in_ab x 1 60 (by decide) (by decide) d h Q
  by_cases h1 : 1 ≤ x.toInt ∧ x.toInt ≤ 60
  · have d1 : (x < nI 1) = False := by rw [c1]; exact eq_false (by omega)
    have d60 : (nI 60 < x) = False := by rw [c60]; exact eq_false (by omega)
    rw [decide_eq_true h1] at i60
    obtain ⟨nn, hnn, h8, rfl⟩ : ∃ nn, 1 ≤ nn ∧ nn ≤ 60 ∧ x = nI nn := by
      obtain ⟨j, hj, rfl⟩ := nI_of (x := x) (by rw [x_l0]; omega)
      rw [i_int hj] at h1
      exact ⟨j, by omega, by omega, rfl⟩
    obtain ⟨ans, S1, W1, r6, r7⟩ := ln_both nn 0 S hW (by omega) h8
    refine ⟨ans, S1, W1, fun lx xs M hC hB => ?_, fun lx xs M hC => ?_⟩
    · obtain ⟨M1, q1, q2, q3, q4⟩ := r6 lx xs M hC hB
      refine ⟨M1, q1, q2, q3, fun Q => ?_⟩
      have q5 := q4 1995 Q
      simp only [Nat.reduceAdd] at q5
      simp (disch := omega) only [s_35_0, s_35_1, s_35_2, s_35_5, s_35_6, s_35_8, s_35_11, s_35_12, s_35_13, s_35_14, ↓reduceIte, d1, d60]
      exact q5
    · obtain ⟨M1, q1, q3, q4⟩ := r7 lx xs M hC
      refine ⟨M1, q1, q3, fun Q => ?_⟩
      have q5 := q4 1996 Q none
      simp only [Nat.reduceAdd] at q5
      simp (disch := omega) only [s_158_0, s_158_1, s_158_2, s_158_3, s_158_6, s_158_9, s_158_12, s_158_13, s_158_14, s_158_15, ↓reduceIte, i60, ap_some, bI_0, Bool.true_eq_false]
      exact q5
  · rw [decide_eq_false h1] at i60
    refine opS_same (-1) hW (fun lx xs M hC Q => ?_) (fun lx xs M hC Q => ?_)
    · by_cases h5 : x.toInt < 1
      · have d1 : (x < nI 1) = True := by rw [c1]; exact eq_true h5
        simp (disch := omega) only [s_35_0, s_35_1, s_35_2, s_35_5, s_35_6, s_35_8, s_35_11, s_35_12, ↓reduceIte, d1]
      · have d1 : (x < nI 1) = False := by rw [c1]; exact eq_false h5
        have d3 : (nI 60 < x) = True := by rw [c60]; exact eq_true (by omega)
        simp (disch := omega) only [s_35_0, s_35_1, s_35_2, s_35_5, s_35_6, s_35_8, s_35_11, s_35_12, ↓reduceIte, d1, d3]
    · simp (disch := omega) only [s_158_0, s_158_1, s_158_2, s_158_3, s_158_6, s_158_9, s_158_12, s_158_13, ↓reduceIte, i60, ap_some, bI_0]
end LF
