/-! may and teach -/
/-- a teaching may be -/
def al (S : Nat → Nat → Nat) (a b t : Nat) : Bool := decide (S 2 (a * 4 + t) < 97) && (!decide (S 2 (b * 4 + t) < 97) && (decide (wo (S 4 t) (kn (S 2) b) = 0) && (S 3 b).testBit a))
/-- the school behind a teaching -/
def tch (S : Nat → Nat → Nat) (a b t : Nat) : Nat → Nat → Nat := upS (upS S 2 (b * 4 + t) (ps (S 1 a) (S 2 (a * 4 + t)))) 0 1 (if S 0 1 = 1000000 then 1000000 else S 0 1 + 1)
theorem ps_lt {k v : Nat} (hv : v < 97) : ps k v < 97 := by
  unfold ps
  have h1 := Nat.mod_lt (v + 1) (by decide : 0 < 97)
  have h2 := Nat.mod_lt (2 * v) (by decide : 0 < 97)
  split
  · exact h1
  · split
    · exact h2
    · split <;> omega
theorem wo_lt {a b : Nat} (h : a < 64) : wo a b < 2147483648 := by have := wo_le a b; omega
theorem up_same {M : Nat → Nat → Int32} {c j : Nat} {x : Int32} (h : M c j = x) : up M c j x = M := by
  funext c2 j2
  by_cases hc : c2 = c
  · subst hc
    by_cases hj : j2 = j
    · subst hj; rw [up_at, h]
    · rw [up_off hj]
  · rw [up_ne _ _ _ hc]
section TE
variable {d : Nat} {Q : Option Value → ex_H → Prop} {lx : Nat} {xs : Nat → Int32} {M : Nat → Nat → Int32} {x y z : Int32} {S : Nat → Nat → Nat} {a b c j k n t q : Nat}
theorem c_X7_mayBe (hC : RepM M S) (hW : WF S) (ha : a < 6) (hb : b < 6) (ht : t < 4) : Go (d + 1) 137 0 [some (.ref 53), some (.int (nI a)), some (.int (nI b)), some (.int (nI t))] [] (HP lx xs M) Q = Q (some (.int (bI (al S a b t)))) (HP lx xs M) := by
  obtain ⟨w1, w2, w3, w4, w5, w6, w7, w8, w9⟩ := hW
  obtain ⟨c1, c2, c3, c4, c5, c6, c7, c8, c9⟩ := hC
  have v1 := w5 (4 * a + t) (by omega); have v2 := w5 (4 * b + t) (by omega); have v3 := w6 b hb; have v4 := w7 t ht
  have v5 : wo (S 4 t) (kn (S 2) b) < 2147483648 := wo_lt (by omega)
  simp (disch := first | omega | assumption) only [s_137_0, s_137_1, s_137_4, s_137_5, s_137_6, s_137_7, s_137_8, s_137_9, s_137_10, s_137_12, s_137_15, s_137_16, s_137_19, s_137_20, s_137_21, s_137_22, s_137_23, s_137_24, s_137_25, s_137_27, s_137_30, s_137_31, s_137_34, s_137_35, s_137_36, s_137_37, s_137_40, s_137_43, s_137_44, s_137_47, s_137_48, s_137_49, s_137_50, s_137_51, s_137_54, s_137_55, s_137_56, s_137_57, s_137_60, s_137_61, s_137_64, s_137_65_0, s_137_65_1, sb_137_65, c_X7_has, c_X7_knownTo hb c5 w5, ap_some, i_add, i_mul, i_in, i_cl, true_and, c5, c6, c7, i_lt, i_eq, i_e0, i_wo, bI_0, q_ite, q_01, q_0b, q_10, q_b0, q_bf]
  congr 4
  rw [Nat.mul_comm 4 a, Nat.mul_comm 4 b] at *
  unfold al
  rw [Bool.eq_iff_iff]
  simp only [Bool.and_eq_true, Bool.not_eq_true', decide_eq_true_eq, decide_eq_false_iff_not, Bool.decide_eq_true, Bool.decide_eq_false, Bool.not_not]
  constructor
  · rintro ⟨h1, h2, h3, h4⟩
    exact ⟨h1, by omega, h4, h3⟩
  · rintro ⟨h1, h2, h3, h4⟩
    exact ⟨h1, by omega, h4, h3⟩
theorem tq_a (ha : a < 6) (hb : b < 6) (ht : t < 4) : ((a * 6 + b) * 4 + t) / 24 = a ∧ ((a * 6 + b) * 4 + t) / 4 % 6 = b ∧ ((a * 6 + b) * 4 + t) % 4 = t := by omega
theorem c_X3_allows (hC : RepC M 2 S) (hW : WF S) (ha : a < S 0 0) (hb : b < S 0 0) (ht : t < 4) : Go (d + 1) 67 0 [some (.ref 2), some (.ref 5), some (.int (nI ((a * 6 + b) * 4 + t))), none, none, none] [] (HP lx xs M) Q = Q (some (.int (bI (al S a b t)))) (HP lx xs M) := by
  obtain ⟨w1, w2, w3, w4, w5, w6, w7, w8, w9⟩ := hW
  obtain ⟨c1, c2, c3, c4, c5, c6, c7, c8, c9, c10, c11, c12⟩ := hC
  simp only [Nat.reduceAdd] at c4 c5 c6 c7 c8 c9 c10 c11 c12
  obtain ⟨e1, e2, e3⟩ := tq_a (a := a) (b := b) (t := t) (by omega) (by omega) ht
  have k1 := kn_lt (S 2) a; have k2 := kn_lt (S 2) b; have k3 := w7 t ht; have k4 := w6 b (by omega)
  rw [c_X3_allows_5 (q := (a * 6 + b) * 4 + t) (by omega) (by rw [e1]; exact c6 a ha) (by rw [e2]; exact c6 b hb) (by rw [e3]; exact c8 t ht) (by rw [e2]; exact c7 b (by omega)) (by omega) (by omega) (by omega) (by omega)]
  rw [e1, e3, kn_bit _ _ ht, kn_bit _ _ ht]
  rfl
theorem tch_WF (hW : WF S) (ha : S 2 (a * 4 + t) < 97) : WF (tch S a b t) := by
  have h1 := WF_say (k := ps (S 1 a) (S 2 (a * 4 + t))) hW (Nat.le_of_lt (ps_lt ha)) (b * 4 + t)
  obtain ⟨w1, w2, w3, w4, w5, w6, w7, w8, w9⟩ := h1
  unfold tch
  have hd := hW.2.1
  refine ⟨?_, ?_, ?_, ?_, ?_, ?_, ?_, ?_, ?_⟩
  · rw [upS_off (by omega)]; exact w1
  · rw [upS_at]; split <;> omega
  · refine ⟨by rw [upS_off (by omega)]; exact w3.1, fun c hc => ?_⟩
    rw [upS_off (by omega)] at hc
    rw [upS_row (by decide)]; exact w3.2 c hc
  · rw [upS_row (by decide)]; exact w4
  · rw [upS_row (by decide)]; exact w5
  · rw [upS_row (by decide)]; exact w6
  · rw [upS_row (by decide)]; exact w7
  · rw [upS_row (by decide : (5 : Nat) ≠ 0)]; exact w8
  · rw [upS_row (by decide : (5 : Nat) ≠ 0), upS_row (by decide : (6 : Nat) ≠ 0), upS_row (by decide : (7 : Nat) ≠ 0), upS_row (by decide : (8 : Nat) ≠ 0), upS_row (by decide : (9 : Nat) ≠ 0), upS_off (by omega : ¬ ((0 : Nat) = 0 ∧ (0 : Nat) = 1))]; exact w9
theorem RepC_done (hC : RepC M 2 S) : RepC (up M 2 1 (nI k)) 2 (upS S 0 1 k) := by
  obtain ⟨c1, c2, c3, c4, c5, c6, c7, c8, c9, c10, c11, c12⟩ := hC
  simp only [Nat.reduceAdd] at c4 c5 c6 c7 c8 c9 c10 c11 c12
  have r0 : upS S 0 1 k 0 0 = S 0 0 := upS_off (by omega)
  have r02 : upS S 0 1 k 0 2 = S 0 2 := upS_off (by omega)
  have rr : ∀ r, r ≠ 0 → upS S 0 1 k r = S r := fun r h => upS_row h
  refine ⟨?_, ?_, ?_, ?_, ?_, ?_, ?_, ?_, ?_, ?_, ?_, ?_⟩
  all_goals try simp only [Nat.reduceAdd, r0, r02, rr 1 (by decide), rr 2 (by decide), rr 3 (by decide), rr 4 (by decide), rr 5 (by decide), rr 6 (by decide), rr 7 (by decide), rr 8 (by decide), hrs_row (rr 9 (by decide)) (rr 5 (by decide)), opn_row (rr 9 (by decide))]
  · rw [up_off (by decide)]; exact c1
  · rw [up_at, upS_at]
  · rw [up_off (by decide)]; exact c3
  · rw [up_ne _ _ _ (by decide)]; exact c4
  · rw [up_ne _ _ _ (by decide)]; exact c5
  · rw [up_ne _ _ _ (by decide)]; exact c6
  · rw [up_ne _ _ _ (by decide)]; exact c7
  · rw [up_ne _ _ _ (by decide)]; exact c8
  · rw [up_ne _ _ _ (by decide)]; exact c9
  · rw [up_ne _ _ _ (by decide)]; exact c10
  · rw [up_ne _ _ _ (by decide)]; exact c11
  · rw [up_ne _ _ _ (by decide)]; exact c12
theorem RepM_done (hC : RepM M S) : RepM (up M 53 7 (nI k)) (upS S 0 1 k) := by
  obtain ⟨c1, c2, c3, c4, c5, c6, c7, c8, c9⟩ := hC
  have r0 : upS S 0 1 k 0 0 = S 0 0 := upS_off (by omega)
  have r02 : upS S 0 1 k 0 2 = S 0 2 := upS_off (by omega)
  have rr : ∀ r, r ≠ 0 → upS S 0 1 k r = S r := fun r h => upS_row h
  refine ⟨?_, ?_, ?_, ?_, ?_, ?_, ?_, ?_, ?_⟩
  all_goals try simp only [r0, r02, rr 1 (by decide), rr 2 (by decide), rr 3 (by decide), rr 4 (by decide), rr 5 (by decide), rr 6 (by decide), rr 7 (by decide), rr 8 (by decide), rr 9 (by decide)]
  · rw [up_off (by decide)]; exact c1
  · rw [up_at, upS_at]
  · rw [up_off (by decide)]; exact c3
  · rw [up_ne _ _ _ (by decide)]; exact c4
  · rw [up_ne _ _ _ (by decide)]; exact c5
  · rw [up_ne _ _ _ (by decide)]; exact c6
  · rw [up_ne _ _ _ (by decide)]; exact c7
  · rw [up_off (by decide)]; exact c8
  · rw [up_ne _ _ _ (by decide)]; exact c9
theorem frM_up53 {M1 : Nat → Nat → Int32} (a : frM M M1) (j : Nat) (x : Int32) (hj : j ≠ 10 ∧ j ≠ 28) : frM M (up M1 53 j x) := by
  obtain ⟨a1, a2, a3, a4, a5, a6, a7, a8⟩ := a
  exact ⟨fun c2 h => (up_ne _ _ _ (by omega)).trans (a1 c2 h), (up_ne _ _ _ (by omega)).trans a2, (up_ne _ _ _ (by omega)).trans a3, (up_ne _ _ _ (by omega)).trans a4, (up_ne _ _ _ (by omega)).trans a5, (up_ne _ _ _ (by omega)).trans a6, by rw [up_off (by omega)]; exact a7, by rw [up_off (by omega)]; exact a8⟩
/-- a teaching is done: by the reference -/
theorem c_X7_teachNow (hC : RepM M S) (hW : WF S) (ha : a < 6) (hb : b < 6) (ht : t < 4) (hk : S 2 (a * 4 + t) < 97) : ∃ M1, RepM M1 (tch S a b t) ∧ frM M M1 ∧ ∀ d Q, Go (d + 1) 138 0 [some (.ref 53), some (.int (nI a)), some (.int (nI b)), some (.int (nI t))] [] (HP lx xs M) Q = Q none (HP lx xs M1) := by
  refine ⟨_, RepM_done (RepM_say hC (b * 4 + t)), frM_up53 ((frM.rf M).up 56 _ _ (by omega)) 7 _ (by decide), fun d Q => ?_⟩
  obtain ⟨w1, w2, w3, w4, w5, w6, w7, w8, w9⟩ := hW
  obtain ⟨c1, c2, c3, c4, c5, c6, c7, c8, c9⟩ := hC
  have v1 := w4 a ha
  have hr : upS S 2 (b * 4 + t) (ps (S 1 a) (S 2 (a * 4 + t))) 0 = S 0 := upS_row (by decide)
  rw [Nat.mul_comm a 4, Nat.mul_comm b 4] at *
  simp (disch := omega) only [s_138_0, s_138_1, s_138_4, s_138_5, s_138_6, s_138_7, s_138_8, s_138_9, s_138_10, s_138_13, s_138_14, s_138_15, s_138_16, s_138_19, s_138_20, s_138_21, s_138_22, s_138_23, s_138_24, s_138_25, s_138_28, s_138_29, s_138_30, s_138_31, s_138_34, s_138_36, s_138_39, s_138_41, s_138_44, s_138_45, s_138_48, s_138_49, s_138_50, s_138_53, c_X7_pass, ap_some, i_add, i_mul, i_in, i_cl, true_and, c4, c5, c2, i_eq, up_ne]
  by_cases h1 : S 0 1 = 1000000
  · simp only [h1, if_true]
  · simp only [h1, if_false]
/-- .. and by the class -/
theorem c_X3_perform (hC : RepC M 2 S) (hW : WF S) (ha : a < S 0 0) (hb : b < S 0 0) (ht : t < 4) (hk : S 2 (a * 4 + t) < 97) (hB : KB M 5) : ∃ M1, RepC M1 2 (tch S a b t) ∧ KB M1 5 ∧ frC M M1 ∧ ∀ d Q, Go (d + 2) 68 0 [some (.ref 2), some (.int (nI ((a * 6 + b) * 4 + t))), none, none] [] (HP lx xs M) Q = Q none (HP lx xs M1) := by
  have hp := ps_lt (k := S 1 a) hk
  refine ⟨_, RepC_done (RepC_say hC hW.1 hb ht (Nat.le_of_lt hp)), KB_ne (KB_at (KB_ne hB _ _ (by decide)) _ (by split; exact Nat.lt_of_le_of_lt (wo_le _ _) (kn_lt _ _); exact or_lt16 (kn_lt _ _) ht)) _ _ (by decide), (((frC.rf M).up 4 _ _ (by unfold prC; omega)).up 5 _ _ (by unfold prC; omega)).up 2 _ _ (by unfold prC; omega), fun d Q => ?_⟩
  obtain ⟨w1, w2, w3, w4, w5, w6, w7, w8, w9⟩ := hW
  obtain ⟨c1, c2, c3, c4, c5, c6, c7, c8, c9, c10, c11, c12⟩ := hC
  simp only [Nat.reduceAdd] at c4 c5 c6 c7 c8 c9 c10 c11 c12
  obtain ⟨e1, e2, e3⟩ := tq_a (a := a) (b := b) (t := t) (by omega) (by omega) ht
  have v1 := w4 a (by omega)
  have e4 := c6 b hb
  have e5 := kn_lt (S 2) b
  simp (disch := first | omega | assumption) only [s_68_0, s_68_1, s_68_4, s_68_5, s_68_6, s_68_9, s_68_10, s_68_11, s_68_12, s_68_15, s_68_16, s_68_17, s_68_20, s_68_21, s_68_22, s_68_23, s_68_24, s_68_25, s_68_28, s_68_31, s_68_34, s_68_35, s_68_38, s_68_40, s_68_43, s_68_44, s_68_45, s_68_48, s_68_49, s_68_50, s_68_53, c_X6_teacherOf, c_X6_pupilOf, c_X6_thingOf, c_X6_passedOn, c_X3_saying, c_X3_setSaying (a := kn (S 2) b), ap_some, ap_none, e1, e2, e3, i_in, i_cl, true_and, c4, c5, up_ne, c2, i_lt, i_add]
  by_cases h1 : S 0 1 = 1000000
  · rw [if_neg (by omega), if_pos h1, up_same (c := 2)]
    rw [up_ne _ _ _ (by decide), up_ne _ _ _ (by decide), c2, h1]
  · rw [if_pos (by omega), if_neg h1]
/-- may: class and reference -/
theorem op_may (hW : WF S) : opS 26 139 [some (.ref 1), some (.int x), some (.int y), some (.int z)] [some (.ref 53), some (.int x), some (.int y), some (.int z)] S := by
  have w1 := hW.1
  by_cases h : isr x (S 0 0) = true ∧ isr y (S 0 0) = true ∧ isr z 4 = true ∧ ¬ x = y
  · obtain ⟨h1, h2, h3, h4⟩ := h
    obtain ⟨a, ha, -, rfl⟩ := isr_of h1
    obtain ⟨b, hb, -, rfl⟩ := isr_of h2
    obtain ⟨t, ht, -, rfl⟩ := isr_of h3
    refine opS_same (bI (al S a b t)) hW (fun lx xs M hC Q => ?_) (fun lx xs M hC Q => ?_)
    · simp (disch := first | omega | assumption) only [s_26_0, s_26_1, s_26_4, s_26_5, s_26_6, s_26_7, s_26_10, s_26_13, s_26_14, s_26_15, s_26_16, s_26_19, s_26_20, s_26_23, s_26_26, s_26_27, s_26_28, s_26_29, s_26_32, s_26_35, s_26_38, s_26_39, s_26_42, s_26_43, c_X3_isTeaching w1 hC.1, c_X6_teaching, c_X3_allows hC hW ha hb ht, ap_some, bI_0, h1, h2, h3, h4, Bool.true_and, Bool.not_false, decide_false, Bool.true_eq_false, if_false, q_ite, q_01, q_bf]
    · simp (disch := first | omega | assumption) only [s_139_0, s_139_1, s_139_2, s_139_3, s_139_6, s_139_9, s_139_10, s_139_13, s_139_16, s_139_17, s_139_20, s_139_21, s_139_22, s_139_23, s_139_24, s_139_27, s_139_30, s_139_31, s_139_34, s_139_35, c_X7_areTwo w1 hC.1, c_X7_isThing, c_X7_mayBe hC hW (by omega : a < 6) (by omega : b < 6) ht, ap_some, bI_0, h1, h2, h3, h4, Bool.true_and, Bool.not_false, decide_false, Bool.true_eq_false, if_false, q_ite, q_01, q_bf]
  · refine opS_same (-1) hW (fun lx xs M hC Q => ?_) (fun lx xs M hC Q => ?_)
    · simp only [s_26_0, s_26_1, s_26_4, s_26_5, s_26_6, s_26_7, s_26_10, s_26_13, s_26_14, s_26_15, s_26_16, s_26_19, s_26_20, s_26_23, s_26_26, s_26_27, s_26_28, s_26_29, s_26_32, s_26_35, s_26_38, s_26_39, s_26_42, s_26_43, c_X3_isTeaching w1 hC.1, ap_some, bI_0]
      rw [if_pos]
      rw [← Bool.not_eq_true]
      simp only [Bool.and_eq_true, Bool.not_eq_true', decide_eq_false_iff_not]
      exact h
    · simp only [s_139_0, s_139_1, s_139_2, s_139_3, s_139_6, s_139_9, s_139_10, s_139_13, s_139_16, s_139_17, s_139_20, s_139_21, s_139_22, s_139_23, s_139_24, s_139_27, s_139_30, s_139_31, s_139_34, s_139_35, c_X7_areTwo w1 hC.1, c_X7_isThing, ap_some, bI_0]
      by_cases h5 : (isr x (S 0 0) && (isr y (S 0 0) && !decide (x = y))) = false
      · rw [if_pos h5]
      · rw [if_neg h5, if_pos]
        have h6 := Bool.of_not_eq_false h5
        simp only [Bool.and_eq_true, Bool.not_eq_true', decide_eq_false_iff_not] at h6
        exact Bool.eq_false_iff.mpr fun q => h ⟨h6.1, h6.2.1, q, h6.2.2⟩
/-- teach: class and reference -/
theorem op_teach (hW : WF S) : opS 27 140 [some (.ref 1), some (.int x), some (.int y), some (.int z), none] [some (.ref 53), some (.int x), some (.int y), some (.int z)] S := by
  have w1 := hW.1
  by_cases h : isr x (S 0 0) = true ∧ isr y (S 0 0) = true ∧ isr z 4 = true ∧ ¬ x = y
  · obtain ⟨h1, h2, h3, h4⟩ := h
    obtain ⟨a, ha, -, rfl⟩ := isr_of h1
    obtain ⟨b, hb, -, rfl⟩ := isr_of h2
    obtain ⟨t, ht, -, rfl⟩ := isr_of h3
    by_cases h5 : al S a b t = true
    · have hk : S 2 (a * 4 + t) < 97 := by
        unfold al at h5
        exact of_decide_eq_true (Bool.and_eq_true_iff.mp h5).1
      have e1 : tch S a b t 2 (b * 4 + t) = ps (S 1 a) (S 2 (a * 4 + t)) := by unfold tch; rw [upS_row (by decide), upS_at]
      refine ⟨nI (ps (S 1 a) (S 2 (a * 4 + t))), tch S a b t, tch_WF hW hk, fun lx xs M hC hB => ?_, fun lx xs M hC => ?_⟩
      · obtain ⟨M1, r1, rB, r2, r3⟩ := c_X3_perform (lx := lx) (xs := xs) hC hW ha hb ht hk hB
        refine ⟨M1, r1, rB, r2, fun Q => ?_⟩
        have e2 := r1.2.2.2.2.1 (b * 4 + t) (by omega)
        simp only [Nat.reduceAdd] at e2
        simp (disch := first | omega | assumption) only [s_27_0, s_27_1, s_27_4, s_27_5, s_27_6, s_27_7, s_27_10, s_27_13, s_27_14, s_27_15, s_27_16, s_27_17, s_27_18, s_27_21, s_27_23, s_27_24, s_27_27, s_27_28, s_27_31, s_27_34, s_27_36, s_27_39, s_27_42, s_27_44, s_27_45, s_27_46, s_27_49, s_27_51, s_27_54, s_27_55, s_27_58, s_27_59, s_27_60, s_27_63, c_X3_isTeaching w1 hC.1, c_X6_teaching, c_X3_allows hC hW ha hb ht, ap_some, ap_none, bI_0, h1, h2, h3, h4, h5, Bool.true_and, Bool.not_false, decide_false, Bool.true_eq_false, if_false, r3, c_X3_saying, e2, e1]
      · obtain ⟨M1, r1, r2, r3⟩ := c_X7_teachNow (lx := lx) (xs := xs) hC hW (by omega : a < 6) (by omega : b < 6) ht hk
        refine ⟨M1, r1, r2, fun Q => ?_⟩
        have e2 := r1.2.2.2.2.1 (4 * b + t) (by omega)
        rw [Nat.mul_comm b 4] at e1
        simp (disch := first | omega | assumption) only [s_140_0, s_140_1, s_140_2, s_140_3, s_140_6, s_140_9, s_140_10, s_140_13, s_140_16, s_140_17, s_140_18, s_140_19, s_140_20, s_140_21, s_140_22, s_140_25, s_140_28, s_140_30, s_140_31, s_140_32, s_140_33, s_140_34, s_140_35, s_140_38, s_140_39, s_140_42, s_140_43, s_140_44, s_140_45, s_140_46, s_140_47, s_140_48, c_X7_areTwo w1 hC.1, c_X7_isThing, c_X7_mayBe hC hW (by omega : a < 6) (by omega : b < 6) ht, ap_some, ap_none, bI_0, h1, h2, h3, h4, h5, Bool.true_and, Bool.not_false, decide_false, Bool.true_eq_false, if_false, r3, i_add, i_mul, i_in, i_cl, true_and, e2, e1]
    · rw [Bool.not_eq_true] at h5
      refine opS_same (-2) hW (fun lx xs M hC Q => ?_) (fun lx xs M hC Q => ?_)
      · simp (disch := first | omega | assumption) only [s_27_0, s_27_1, s_27_4, s_27_5, s_27_6, s_27_7, s_27_10, s_27_13, s_27_14, s_27_15, s_27_16, s_27_17, s_27_18, s_27_21, s_27_23, s_27_24, s_27_27, s_27_28, s_27_31, s_27_34, s_27_36, s_27_39, s_27_42, s_27_44, s_27_45, s_27_46, s_27_49, s_27_51, s_27_54, s_27_55, s_27_58, s_27_59, s_27_60, s_27_63, c_X3_isTeaching w1 hC.1, c_X6_teaching, c_X3_allows hC hW ha hb ht, ap_some, bI_0, h1, h2, h3, h4, h5, Bool.true_and, Bool.not_false, decide_false, Bool.true_eq_false, if_false, if_true]
      · simp (disch := first | omega | assumption) only [s_140_0, s_140_1, s_140_2, s_140_3, s_140_6, s_140_9, s_140_10, s_140_13, s_140_16, s_140_17, s_140_18, s_140_19, s_140_20, s_140_21, s_140_22, s_140_25, s_140_28, s_140_30, s_140_31, s_140_32, s_140_33, s_140_34, s_140_35, s_140_38, s_140_39, s_140_42, s_140_43, s_140_44, s_140_45, s_140_46, s_140_47, s_140_48, c_X7_areTwo w1 hC.1, c_X7_isThing, c_X7_mayBe hC hW (by omega : a < 6) (by omega : b < 6) ht, ap_some, bI_0, h1, h2, h3, h4, h5, Bool.true_and, Bool.not_false, decide_false, Bool.true_eq_false, if_false, if_true]
  · refine opS_same (-1) hW (fun lx xs M hC Q => ?_) (fun lx xs M hC Q => ?_)
    · simp only [s_27_0, s_27_1, s_27_4, s_27_5, s_27_6, s_27_7, s_27_10, s_27_13, s_27_14, s_27_15, s_27_16, s_27_17, s_27_18, s_27_21, s_27_23, s_27_24, s_27_27, s_27_28, s_27_31, s_27_34, s_27_36, s_27_39, s_27_42, s_27_44, s_27_45, s_27_46, s_27_49, s_27_51, s_27_54, s_27_55, s_27_58, s_27_59, s_27_60, s_27_63, c_X3_isTeaching w1 hC.1, ap_some, bI_0]
      rw [if_pos]
      rw [← Bool.not_eq_true]
      simp only [Bool.and_eq_true, Bool.not_eq_true', decide_eq_false_iff_not]
      exact h
    · simp only [s_140_0, s_140_1, s_140_2, s_140_3, s_140_6, s_140_9, s_140_10, s_140_13, s_140_16, s_140_17, s_140_18, s_140_19, s_140_20, s_140_21, s_140_22, s_140_25, s_140_28, s_140_30, s_140_31, s_140_32, s_140_33, s_140_34, s_140_35, s_140_38, s_140_39, s_140_42, s_140_43, s_140_44, s_140_45, s_140_46, s_140_47, s_140_48, c_X7_areTwo w1 hC.1, c_X7_isThing, ap_some, bI_0]
      by_cases h5 : (isr x (S 0 0) && (isr y (S 0 0) && !decide (x = y))) = false
      · rw [if_pos h5]
      · rw [if_neg h5, if_pos]
        have h6 := Bool.of_not_eq_false h5
        simp only [Bool.and_eq_true, Bool.not_eq_true', decide_eq_false_iff_not] at h6
        exact Bool.eq_false_iff.mpr fun q => h ⟨h6.1, h6.2.1, q, h6.2.2⟩
end TE
