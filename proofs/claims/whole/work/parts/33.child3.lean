/-! child: both alike -/
section CB
variable {d : Nat} {Q : Option Value → ex_H → Prop} {lx : Nat} {xs : Nat → Int32} {M : Nat → Nat → Int32} {x y z : Int32} {S : Nat → Nat → Nat} {a b c j k n t q : Nat} {e : Bool}
theorem four_at {f : Nat → Nat → Int32} {c i : Nat} (h : n * 4 ≤ i ∧ i < n * 4 + 4) : (up (up (up (up f c (n * 4) x) c (n * 4 + 1) x) c (n * 4 + 2) x) c (n * 4 + 3) x) c i = x := by
  rcases (by omega : i = n * 4 ∨ i = n * 4 + 1 ∨ i = n * 4 + 2 ∨ i = n * 4 + 3) with rfl | rfl | rfl | rfl
  · rw [up_off (by omega), up_off (by omega), up_off (by omega), up_at]
  · rw [up_off (by omega), up_off (by omega), up_at]
  · rw [up_off (by omega), up_at]
  · rw [up_at]
theorem four_off {f : Nat → Nat → Int32} {c i : Nat} (h : ¬ (n * 4 ≤ i ∧ i < n * 4 + 4)) : (up (up (up (up f c (n * 4) x) c (n * 4 + 1) x) c (n * 4 + 2) x) c (n * 4 + 3) x) c i = f c i := by
  rw [up_off (by omega), up_off (by omega), up_off (by omega), up_off (by omega)]
theorem four_ne {f : Nat → Nat → Int32} {c c2 : Nat} (h : c2 ≠ c) : (up (up (up (up f c (n * 4) x) c (n * 4 + 1) x) c (n * 4 + 2) x) c (n * 4 + 3) x) c2 = f c2 := by
  rw [up_ne _ _ _ h, up_ne _ _ _ h, up_ne _ _ _ h, up_ne _ _ _ h]
theorem RepC_add (hC : RepC M 2 S) (hn : S 0 0 < 6) : RepC (up (up (up (up (up (up (up (up (upr M 6 (flt (fun i => nI (S 3 i ||| 2 ^ S 0 0)) (M 6) (S 0 0))) 6 (S 0 0) (nI (2 ^ S 0 0 - 1))) 3 (S 0 0) (nI k)) 4 (S 0 0 * 4) (nI 97)) 4 (S 0 0 * 4 + 1) (nI 97)) 4 (S 0 0 * 4 + 2) (nI 97)) 4 (S 0 0 * 4 + 3) (nI 97)) 5 (S 0 0) (nI 0)) 2 0 (nI (S 0 0 + 1))) 2 (addS S k) := by
  obtain ⟨c1, c2, c3, c4, c5, c6, c7, c8, c9, c10, c11, c12⟩ := hC
  simp only [Nat.reduceAdd] at c4 c5 c6 c7 c8 c9 c10 c11 c12
  have hh : hrs (addS S k) = hrs S := rfl
  have ho : ∀ i, opn (addS S k) i = opn S i := fun i => rfl
  refine ⟨?_, ?_, ?_, ?_, ?_, ?_, ?_, ?_, ?_, ?_, ?_, ?_⟩
  all_goals try simp only [Nat.reduceAdd]
  · rw [up_at]; rfl
  · rw [up_off (by decide), up_ne _ _ _ (by decide), four_ne (by decide), up_ne _ _ _ (by decide), up_ne _ _ _ (by decide), upr_ne _ _ (by decide)]; exact c2
  · rw [up_off (by decide), up_ne _ _ _ (by decide), four_ne (by decide), up_ne _ _ _ (by decide), up_ne _ _ _ (by decide), upr_ne _ _ (by decide)]; exact c3
  · intro c hc
    rw [up_ne _ _ _ (by decide), up_ne _ _ _ (by decide), four_ne (by decide)]
    show _ = nI (if c = S 0 0 then k else S 1 c)
    by_cases h : c = S 0 0
    · rw [if_pos h, h, up_at]
    · rw [if_neg h, up_off h, up_ne _ _ _ (by decide), upr_ne _ _ (by decide)]; exact c4 c hc
  · intro i hi
    rw [up_ne _ _ _ (by decide), up_ne _ _ _ (by decide)]
    show _ = nI (if S 0 0 * 4 ≤ i ∧ i < S 0 0 * 4 + 4 then 97 else S 2 i)
    by_cases h : S 0 0 * 4 ≤ i ∧ i < S 0 0 * 4 + 4
    · rw [if_pos h, four_at h]
    · rw [if_neg h, four_off h, up_ne _ _ _ (by decide), up_ne _ _ _ (by decide), upr_ne _ _ (by decide)]; exact c5 i hi
  · intro c hc
    have hc : c < S 0 0 + 1 := hc
    rw [up_ne _ _ _ (by decide)]
    by_cases h : c = S 0 0
    · rw [h, up_at, addS_kn0]
    · rw [up_off h, addS_kn c (by omega), four_ne (by decide), up_ne _ _ _ (by decide), up_ne _ _ _ (by decide), upr_ne _ _ (by decide)]; exact c6 c (by omega)
  · intro c hc
    rw [up_ne _ _ _ (by decide), up_ne _ _ _ (by decide), four_ne (by decide), up_ne _ _ _ (by decide)]
    show _ = nI (if c < S 0 0 then S 3 c ||| 2 ^ S 0 0 else if c = S 0 0 then 2 ^ S 0 0 - 1 else S 3 c)
    by_cases h : c = S 0 0
    · rw [if_neg (by omega), if_pos h, h, up_at]
    · rw [up_off h, upr_eq]
      unfold flt
      by_cases h2 : c < S 0 0
      · rw [if_pos h2, if_pos h2]
      · rw [if_neg h2, if_neg h2, if_neg h]; exact c7 c hc
  · intro t ht
    rw [up_ne _ _ _ (by decide), up_ne _ _ _ (by decide), four_ne (by decide), up_ne _ _ _ (by decide), up_ne _ _ _ (by decide), upr_ne _ _ (by decide)]; exact c8 t ht
  · rw [up_ne _ _ _ (by decide), up_ne _ _ _ (by decide), four_ne (by decide), up_ne _ _ _ (by decide), up_ne _ _ _ (by decide), upr_ne _ _ (by decide)]; exact c9
  · rw [up_ne _ _ _ (by decide), up_ne _ _ _ (by decide), four_ne (by decide), up_ne _ _ _ (by decide), up_ne _ _ _ (by decide), upr_ne _ _ (by decide)]; exact c10
  · intro i hi
    rw [up_ne _ _ _ (by decide), up_ne _ _ _ (by decide), four_ne (by decide), up_ne _ _ _ (by decide), up_ne _ _ _ (by decide), upr_ne _ _ (by decide)]; exact c11 i hi
  · intro i hi
    rw [up_ne _ _ _ (by decide), up_ne _ _ _ (by decide), four_ne (by decide), up_ne _ _ _ (by decide), up_ne _ _ _ (by decide), upr_ne _ _ (by decide)]; exact c12 i hi
theorem RepM_add (hC : RepM M S) (hn : S 0 0 < 6) : RepM (up (up (up (up (up (upr (up M 54 (S 0 0) (nI k)) 55 (hdG (M 55) (S 3) (S 0 0) (S 0 0))) 56 (S 0 0 * 4) (nI 97)) 56 (S 0 0 * 4 + 1) (nI 97)) 56 (S 0 0 * 4 + 2) (nI 97)) 56 (S 0 0 * 4 + 3) (nI 97)) 53 4 (nI (S 0 0 + 1))) (addS S k) := by
  obtain ⟨c1, c2, c3, c4, c5, c6, c7, c8, c9⟩ := hC
  refine ⟨?_, ?_, ?_, ?_, ?_, ?_, ?_, ?_, ?_⟩
  · rw [up_at]; rfl
  · rw [up_off (by decide), four_ne (by decide), upr_ne _ _ (by decide), up_ne _ _ _ (by decide)]; exact c2
  · rw [up_off (by decide), four_ne (by decide), upr_ne _ _ (by decide), up_ne _ _ _ (by decide)]; exact c3
  · intro c hc
    rw [up_ne _ _ _ (by decide), four_ne (by decide), upr_ne _ _ (by decide)]
    show _ = nI (if c = S 0 0 then k else S 1 c)
    by_cases h : c = S 0 0
    · rw [if_pos h, h, up_at]
    · rw [if_neg h, up_off h]; exact c4 c hc
  · intro i hi
    rw [up_ne _ _ _ (by decide)]
    show _ = nI (if S 0 0 * 4 ≤ i ∧ i < S 0 0 * 4 + 4 then 97 else S 2 i)
    by_cases h : S 0 0 * 4 ≤ i ∧ i < S 0 0 * 4 + 4
    · rw [if_pos h, four_at h]
    · rw [if_neg h, four_off h, upr_ne _ _ (by decide), up_ne _ _ _ (by decide)]; exact c5 i hi
  · intro c hc
    rw [up_ne _ _ _ (by decide), four_ne (by decide), upr_eq]
    show _ = nI (if c < S 0 0 then S 3 c ||| 2 ^ S 0 0 else if c = S 0 0 then 2 ^ S 0 0 - 1 else S 3 c)
    unfold hdG
    by_cases h : c = S 0 0
    · rw [if_pos h, if_neg (by omega), if_pos h]
    · rw [if_neg h]
      by_cases h2 : c < S 0 0
      · rw [if_pos h2, if_pos h2]
      · rw [if_neg h2, if_neg h2, if_neg h]; exact c6 c hc
  · intro t ht
    rw [up_ne _ _ _ (by decide), four_ne (by decide), upr_ne _ _ (by decide), up_ne _ _ _ (by decide)]; exact c7 t ht
  · rw [up_off (by decide), four_ne (by decide), upr_ne _ _ (by decide), up_ne _ _ _ (by decide)]; exact c8
  · intro i hi
    rw [up_ne _ _ _ (by decide), four_ne (by decide), upr_ne _ _ (by decide), up_ne _ _ _ (by decide)]; exact c9 i hi
theorem frM_upr {M1 : Nat → Nat → Int32} (a : frM M M1) (c : Nat) (f : Nat → Int32) (hc : 54 ≤ c ∧ c ≠ 59 ∧ (c < 71 ∨ 74 < c)) : frM M (upr M1 c f) := by
  obtain ⟨a1, a2, a3, a4, a5, a6, a7, a8⟩ := a
  exact ⟨fun c2 h => (upr_ne _ _ (by omega)).trans (a1 c2 h), (upr_ne _ _ (by omega)).trans a2, (upr_ne _ _ (by omega)).trans a3, (upr_ne _ _ (by omega)).trans a4, (upr_ne _ _ (by omega)).trans a5, (upr_ne _ _ (by omega)).trans a6, by rw [upr_ne _ _ (by omega)]; exact a7, by rw [upr_ne _ _ (by omega)]; exact a8⟩
theorem KB_upr (h : KB M 5) (c : Nat) (f : Nat → Int32) (hc : 5 ≠ c) : KB (upr M c f) 5 := fun i hi => by rw [upr_ne _ _ hc]; exact h i hi
/-- child: class and reference -/
theorem op_child (hW : WF S) : opS 16 120 [some (.ref 1), some (.int x)] [some (.ref 53), some (.int x)] S := by
  have w1 := hW.1
  have w6 := hW.2.2.2.2.2.1
  by_cases h1 : isr x 4 = true
  · obtain ⟨k, hk, -, rfl⟩ := isr_of h1
    by_cases hn : S 0 0 < 6
    · refine ⟨nI (S 0 0), addS S k, addS_WF hW hn hk, fun lx xs M hC hB => ⟨_, RepC_add hC hn, KB_ne (KB_at (KB_ne (KB_ne (KB_ne (KB_ne (KB_ne (KB_ne (KB_upr hB 6 _ (by decide)) _ _ (by decide)) _ _ (by decide)) _ _ (by decide)) _ _ (by decide)) _ _ (by decide)) _ _ (by decide)) _ (by decide)) _ _ (by decide), ?_, fun Q => ?_⟩, fun lx xs M hC => ⟨_, RepM_add hC hn, ?_, fun Q => ?_⟩⟩
      · exact ((((((((((frC.rf M).upr 6 _ (by unfold prC; omega)).up 6 _ _ (by unfold prC; omega)).up 3 _ _ (by unfold prC; omega)).up 4 _ _ (by unfold prC; omega)).up 4 _ _ (by unfold prC; omega)).up 4 _ _ (by unfold prC; omega)).up 4 _ _ (by unfold prC; omega)).up 5 _ _ (by unfold prC; omega)).up 2 _ _ (by unfold prC; omega))
      · have c7 := hC.2.2.2.2.2.2.1
        simp only [Nat.reduceAdd] at c7
        simp (disch := omega) only [s_16_0, s_16_1, s_16_4, s_16_5, s_16_6, s_16_9, s_16_10, s_16_11, s_16_12, s_16_15, s_16_16, s_16_19, ↓reduceIte, i_l0, i_lt, hk, c_X3_admit hn hk hC.1 c7 w6 hB, ap_some]
      · exact frM_up53 (((((frM_upr ((frM.rf M).up 54 _ _ (by omega)) 55 _ (by omega)).up 56 _ _ (by omega)).up 56 _ _ (by omega)).up 56 _ _ (by omega)).up 56 _ _ (by omega)) 4 _ (by decide)
      · have hne : (S 0 0 = 6) = False := eq_false (by omega)
        simp (disch := omega) only [s_120_0, s_120_1, s_120_2, s_120_3, s_120_6, s_120_9, s_120_12, s_120_13, s_120_14, s_120_15, s_120_18, s_120_20, s_120_23, s_120_25, s_120_26, s_120_27, s_120_28, s_120_31, s_120_32, s_120_35, s_120_36, s_120_37, ↓reduceIte, in_isr, Nat.reduceAdd, h1, ap_some, ap_none, bI_0, Bool.true_eq_false, hC.1, i_eq, hne, c_X7_add hn hk hC.1 hC.2.2.2.2.2.1 w6, up_at, i_sub, Nat.add_sub_cancel]
    · have h6 : S 0 0 = 6 := by omega
      refine opS_same (-3) hW (fun lx xs M hC Q => ?_) (fun lx xs M hC Q => ?_)
      · have e1 := hC.1
        rw [h6] at e1
        simp (disch := omega) only [s_16_0, s_16_1, s_16_4, s_16_5, s_16_6, s_16_9, s_16_10, s_16_11, s_16_12, s_16_15, s_16_16, s_16_19, ↓reduceIte, i_l0, i_lt, hk, s_62_0, s_62_1, s_62_4, s_62_6, s_62_9, s_62_11, e1, Nat.lt_irrefl, ap_some]
      · have e1 := hC.1
        rw [h6] at e1
        simp (disch := omega) only [s_120_0, s_120_1, s_120_2, s_120_3, s_120_6, s_120_9, s_120_12, s_120_13, s_120_14, s_120_15, s_120_18, s_120_20, s_120_23, s_120_25, s_120_26, s_120_27, s_120_28, s_120_31, s_120_32, s_120_35, s_120_36, s_120_37, ↓reduceIte, in_isr, Nat.reduceAdd, h1, ap_some, bI_0, Bool.true_eq_false, e1, i_eq]
  · rw [Bool.not_eq_true] at h1
    refine opS_same (-1) hW (fun lx xs M hC Q => ?_) (fun lx xs M hC Q => ?_)
    · have h3 : ¬ (0 ≤ x.toInt ∧ x.toInt < 4) := by unfold isr at h1; exact of_decide_eq_false h1
      rw [s_16_0]
      simp only [s_16_1, s_16_4, s_16_5, s_16_6, s_16_9, s_16_10, s_16_11, s_16_12, x_l0, x_ln x (by decide : 4 < 2147483648)]
      by_cases h4 : x.toInt < 0
      · simp only [h4, ↓reduceIte, s_16_0, s_16_1, s_16_4, s_16_5, s_16_6, s_16_9, s_16_10, s_16_11, s_16_12, s_16_15, s_16_16, s_16_19]
      · have h5 : ¬ x.toInt < 4 := by omega
        simp only [h4, Int.cast_ofNat_Int, h5, ↓reduceIte, s_16_0, s_16_1, s_16_4, s_16_5, s_16_6, s_16_9, s_16_10, s_16_11, s_16_12, s_16_15, s_16_16, s_16_19]
    · simp (disch := omega) only [s_120_0, s_120_1, s_120_2, s_120_3, s_120_6, s_120_9, s_120_12, s_120_13, s_120_14, s_120_15, s_120_18, s_120_20, s_120_23, s_120_25, s_120_26, s_120_27, s_120_28, s_120_31, s_120_32, s_120_35, s_120_36, s_120_37, ↓reduceIte, in_isr, Nat.reduceAdd, h1, ap_some, bI_0]
end CB
