/-! child, know, need, hears, told, passes: class and reference alike -/
section O1
variable {d : Nat} {Q : Option Value → ex_H → Prop} {lx : Nat} {xs : Nat → Int32} {M : Nat → Nat → Int32} {x y z : Int32} {S : Nat → Nat → Nat} {a b c j k n t q : Nat}
theorem WF_say (hW : WF S) (hk : k ≤ 97) (i : Nat) : WF (upS S 2 i k) := by
  obtain ⟨w1, w2, w3, w4, w5, w6, w7, w8, w9⟩ := hW
  refine ⟨?_, ?_, ?_, ?_, ?_, ?_, ?_, ?_, ?_⟩ <;> try simp only [upS_row (by decide : (0 : Nat) ≠ 2), upS_row (by decide : (1 : Nat) ≠ 2), upS_row (by decide : (3 : Nat) ≠ 2), upS_row (by decide : (4 : Nat) ≠ 2), upS_row (by decide : (5 : Nat) ≠ 2), upS_row (by decide : (6 : Nat) ≠ 2), upS_row (by decide : (7 : Nat) ≠ 2), upS_row (by decide : (8 : Nat) ≠ 2), upS_row (by decide : (9 : Nat) ≠ 2)]
  all_goals try assumption
  intro j hj
  by_cases h : j = i
  · subst h; rw [upS_at]; exact hk
  · rw [upS_off (fun q => h q.2)]; exact w5 j hj
theorem RepC_say (hC : RepC M 2 S) (hn : S 0 0 ≤ 6) (hc : c < S 0 0) (ht : t < 4) (hk : k ≤ 97) : RepC (up (up M 4 (c * 4 + t) (nI k)) 5 c (nI (if k = 97 then wo (kn (S 2) c) (2 ^ t) else kn (S 2) c ||| 2 ^ t))) 2 (upS S 2 (c * 4 + t) k) := by
  obtain ⟨c1, c2, c3, c4, c5, c6, c7, c8, c9, c10, c11, c12⟩ := hC
  simp only [Nat.reduceAdd] at c4 c5 c6 c7 c8 c9 c10 c11 c12
  have r0 : upS S 2 (c * 4 + t) k 0 = S 0 := upS_row (by decide)
  have r1 : upS S 2 (c * 4 + t) k 1 = S 1 := upS_row (by decide)
  have r3 : upS S 2 (c * 4 + t) k 3 = S 3 := upS_row (by decide)
  have r4 : upS S 2 (c * 4 + t) k 4 = S 4 := upS_row (by decide)
  have r5 : upS S 2 (c * 4 + t) k 5 = S 5 := upS_row (by decide)
  have r6 : upS S 2 (c * 4 + t) k 6 = S 6 := upS_row (by decide)
  have r7 : upS S 2 (c * 4 + t) k 7 = S 7 := upS_row (by decide)
  have r8 : upS S 2 (c * 4 + t) k 8 = S 8 := upS_row (by decide)
  have r9 : upS S 2 (c * 4 + t) k 9 = S 9 := upS_row (by decide)
  refine ⟨?_, ?_, ?_, ?_, ?_, ?_, ?_, ?_, ?_, ?_, ?_, ?_⟩
  all_goals try simp only [Nat.reduceAdd, r0, r1, r3, r4, r5, r6, r7, r8, hrs_row r9 r5, opn_row r9]
  all_goals try simp only [up_ne _ _ _ (by decide : (2 : Nat) ≠ 5), up_ne _ _ _ (by decide : (2 : Nat) ≠ 4), up_ne _ _ _ (by decide : (3 : Nat) ≠ 5), up_ne _ _ _ (by decide : (3 : Nat) ≠ 4), up_ne _ _ _ (by decide : (4 : Nat) ≠ 5), up_ne _ _ _ (by decide : (6 : Nat) ≠ 5), up_ne _ _ _ (by decide : (6 : Nat) ≠ 4), up_ne _ _ _ (by decide : (7 : Nat) ≠ 5), up_ne _ _ _ (by decide : (7 : Nat) ≠ 4), up_ne _ _ _ (by decide : (8 : Nat) ≠ 5), up_ne _ _ _ (by decide : (8 : Nat) ≠ 4), up_ne _ _ _ (by decide : (9 : Nat) ≠ 5), up_ne _ _ _ (by decide : (9 : Nat) ≠ 4), up_ne _ _ _ (by decide : (10 : Nat) ≠ 5), up_ne _ _ _ (by decide : (10 : Nat) ≠ 4)]
  all_goals try assumption
  · intro i hi
    by_cases h : i = c * 4 + t
    · subst h; rw [up_at, upS_at]
    · rw [up_off h, upS_off (fun q => h q.2)]; exact c5 i hi
  · intro i hi
    by_cases h : i = c
    · subst h; rw [up_at, kn_at ht hk]
    · rw [up_off h, up_ne _ _ _ (by decide : (5 : Nat) ≠ 4), c6 i hi]
      congr 1
      refine (kn_off fun t2 ht2 => ?_).symm
      exact upS_off (by omega)
theorem RepM_say (hC : RepM M S) (i : Nat) : RepM (up M 56 i (nI k)) (upS S 2 i k) := by
  obtain ⟨c1, c2, c3, c4, c5, c6, c7, c8, c9⟩ := hC
  have r0 : upS S 2 i k 0 = S 0 := upS_row (by decide)
  have r1 : upS S 2 i k 1 = S 1 := upS_row (by decide)
  have r3 : upS S 2 i k 3 = S 3 := upS_row (by decide)
  have r4 : upS S 2 i k 4 = S 4 := upS_row (by decide)
  have r5 : upS S 2 i k 5 = S 5 := upS_row (by decide)
  have r6 : upS S 2 i k 6 = S 6 := upS_row (by decide)
  have r7 : upS S 2 i k 7 = S 7 := upS_row (by decide)
  have r8 : upS S 2 i k 8 = S 8 := upS_row (by decide)
  have r9 : upS S 2 i k 9 = S 9 := upS_row (by decide)
  refine ⟨?_, ?_, ?_, ?_, ?_, ?_, ?_, ?_, ?_⟩
  all_goals try simp only [r0, r1, r3, r4, r5, r6, r7, r8, r9]
  all_goals try simp only [up_ne _ _ _ (by decide : (53 : Nat) ≠ 56), up_ne _ _ _ (by decide : (54 : Nat) ≠ 56), up_ne _ _ _ (by decide : (55 : Nat) ≠ 56), up_ne _ _ _ (by decide : (57 : Nat) ≠ 56), up_ne _ _ _ (by decide : (58 : Nat) ≠ 56)]
  all_goals try assumption
  intro j hj
  by_cases h : j = i
  · subst h; rw [up_at, upS_at]
  · rw [up_off h, upS_off (fun q => h q.2)]; exact c5 j hj
theorem frM.up {M1 : Nat → Nat → Int32} (a : frM M M1) (c j : Nat) (x : Int32) (hc : 54 ≤ c ∧ c ≠ 59 ∧ (c < 71 ∨ 74 < c)) : frM M (up M1 c j x) := by
  obtain ⟨a1, a2, a3, a4, a5, a6, a7, a8⟩ := a
  exact ⟨fun c2 h => (up_ne _ _ _ (by omega)).trans (a1 c2 h), (up_ne _ _ _ (by omega)).trans a2, (up_ne _ _ _ (by omega)).trans a3, (up_ne _ _ _ (by omega)).trans a4, (up_ne _ _ _ (by omega)).trans a5, (up_ne _ _ _ (by omega)).trans a6, by rw [up_ne _ _ _ (by omega)]; exact a7, by rw [up_ne _ _ _ (by omega)]; exact a8⟩
/-- know: out of range -/
theorem op_know_bad (hW : WF S) (h : isr x (S 0 0) = false ∨ isr y 4 = false ∨ ¬ (-1 ≤ z.toInt ∧ z.toInt ≤ 96)) : opS 17 121 [some (.ref 1), some (.int x), some (.int y), some (.int z), none] [some (.ref 53), some (.int x), some (.int y), some (.int z), none] S := by
  have w1 := hW.1
  refine opS_same (-1) hW (fun lx xs M hC Q => ?_) (fun lx xs M hC Q => ?_)
  · have c1 := hC.1
    simp only [s_17_0, s_17_1, s_17_4, s_17_5, s_17_8, s_17_11, s_17_12, s_17_15, s_17_18, s_17_19, s_17_20, s_17_23, s_17_24, s_17_26, s_17_29, s_17_30, s_17_31, s_17_32, s_17_35, s_17_36, s_17_37, s_17_40, s_17_42, s_17_43, s_17_46, s_17_47, s_17_48, s_17_49, s_17_52, s_17_54, s_17_57, s_17_58, s_17_61, s_17_63, c_X3_isChild w1 c1, c_X6_isThing, ap_some, bI_0, x_m1, x_ln z (by decide : 97 < 2147483648)]
    by_cases hx : isr x (S 0 0) = false
    · rw [if_pos hx]
    · by_cases hy : isr y 4 = false
      · rw [if_neg hx, if_pos hy]
      · rw [if_neg hx, if_neg hy]
        have hz : ¬ (-1 ≤ z.toInt ∧ z.toInt ≤ 96) := by rcases h with h | h | h; exact absurd h hx; exact absurd h hy; exact h
        by_cases h1 : z.toInt < -1
        · rw [if_pos h1]
        · rw [if_neg h1, if_neg (by omega)]
  · have c1 := hC.1
    simp only [s_121_0, s_121_1, s_121_2, s_121_5, s_121_8, s_121_9, s_121_12, s_121_15, s_121_16, s_121_17, s_121_20, s_121_23, s_121_26, s_121_29, s_121_30, s_121_31, s_121_32, s_121_35, s_121_36, s_121_37, s_121_38, s_121_39, s_121_40, s_121_41, s_121_43, s_121_44, s_121_47, s_121_48, s_121_49, s_121_50, s_121_51, s_121_52, s_121_53, s_121_56, s_121_58, s_121_61, s_121_62, s_121_63, s_121_65, c_X7_isChild w1 c1, c_X7_isThing, c_X7_in, ap_some, bI_0]
    by_cases hx : isr x (S 0 0) = false
    · rw [if_pos hx]
    · by_cases hy : isr y 4 = false
      · rw [if_neg hx, if_pos hy]
      · rw [if_neg hx, if_neg hy]
        have hz : ¬ (-1 ≤ z.toInt ∧ z.toInt ≤ 96) := by rcases h with h | h | h; exact absurd h hx; exact absurd h hy; exact h
        rw [if_pos]
        rw [decide_eq_false_iff_not, Int32.toInt_toInt64, lN_toInt (by decide)]
        exact hz
/-- know: how a child says a thing becomes k (97: not) -/
theorem op_know_set (hW : WF S) (hc : c < S 0 0) (ht : t < 4) (hk : k ≤ 97) (hz : z = if k = 97 then -1 else nI k) : opS 17 121 [some (.ref 1), some (.int (nI c)), some (.int (nI t)), some (.int z), none] [some (.ref 53), some (.int (nI c)), some (.int (nI t)), some (.int z), none] S := by
  have w1 := hW.1
  have hx : isr (nI c) (S 0 0) = true := by rw [isr_nI (by omega)]; exact decide_eq_true hc
  have hy : isr (nI t) 4 = true := by rw [isr_nI (by omega)]; exact decide_eq_true ht
  have zi : z.toInt = if k = 97 then (-1 : Int) else (k : Int) := by
    rw [hz]; split
    · rfl
    · exact i_int (by omega)
  have z1 : (z < -1) = False := by rw [x_m1, zi]; apply eq_false; split <;> omega
  have z2 : (z < nI 97) = True := by rw [x_ln z (by decide), zi]; apply eq_true; split <;> omega
  have z3 : (z < 0) = (k = 97) := by rw [x_l0, zi]; apply propext; split <;> omega
  refine ⟨nI (S 2 (c * 4 + t)), upS S 2 (c * 4 + t) k, WF_say hW hk _, fun lx xs M hC hB => ⟨_, RepC_say hC w1 hc ht hk, KB_at (KB_ne hB _ _ (by decide)) _ (by split; exact Nat.lt_of_le_of_lt (wo_le _ _) (kn_lt _ _); exact or_lt16 (kn_lt _ _) ht), ((frC.rf M).up 4 _ _ (by unfold prC; omega)).up 5 _ _ (by unfold prC; omega), fun Q => ?_⟩, fun lx xs M hC => ⟨_, RepM_say hC (c * 4 + t), (frM.rf M).up 56 _ _ (by omega), fun Q => ?_⟩⟩
  · obtain ⟨c1, c2, c3, c4, c5, c6, c7, c8, c9, c10, c11, c12⟩ := hC
    simp only [Nat.reduceAdd] at c5 c6
    have e1 := c5 (c * 4 + t) (by omega)
    have e2 := c6 c hc
    simp (disch := omega) only [s_17_0, s_17_1, s_17_4, s_17_5, s_17_8, s_17_11, s_17_12, s_17_15, s_17_18, s_17_19, s_17_20, s_17_23, s_17_24, s_17_26, s_17_29, s_17_30, s_17_31, s_17_32, s_17_35, s_17_36, s_17_37, s_17_40, s_17_42, s_17_43, s_17_46, s_17_47, s_17_48, s_17_49, s_17_52, s_17_54, s_17_57, s_17_58, s_17_61, s_17_63, c_X3_isChild w1 c1, c_X6_isThing, ap_some, bI_0, c_X3_saying, z1, z2, hx, hy, if_true, if_false, Bool.true_eq_false, e1, z3]
    by_cases hk97 : k = 97
    · subst hk97
      simp (disch := first | omega | exact kn_lt _ _ | exact e2) only [if_true, c_X3_setSaying (a := kn (S 2) c), ap_none, s_17_0, s_17_1, s_17_4, s_17_5, s_17_8, s_17_11, s_17_12, s_17_15, s_17_18, s_17_19, s_17_20, s_17_23, s_17_24, s_17_26, s_17_29, s_17_30, s_17_31, s_17_32, s_17_35, s_17_36, s_17_37, s_17_40, s_17_42, s_17_43, s_17_46, s_17_47, s_17_48, s_17_49, s_17_52, s_17_54, s_17_57, s_17_58, s_17_61, s_17_63]
    · rw [if_neg hk97] at hz
      simp (disch := first | omega | exact kn_lt _ _ | exact e2) only [hk97, if_false, hz, c_X3_setSaying (a := kn (S 2) c), ap_none, s_17_0, s_17_1, s_17_4, s_17_5, s_17_8, s_17_11, s_17_12, s_17_15, s_17_18, s_17_19, s_17_20, s_17_23, s_17_24, s_17_26, s_17_29, s_17_30, s_17_31, s_17_32, s_17_35, s_17_36, s_17_37, s_17_40, s_17_42, s_17_43, s_17_46, s_17_47, s_17_48, s_17_49, s_17_52, s_17_54, s_17_57, s_17_58, s_17_61, s_17_63]
  · obtain ⟨c1, c2, c3, c4, c5, c6, c7, c8, c9⟩ := hC
    have e1 := c5 (4 * c + t) (by omega)
    simp (disch := omega) only [s_121_0, s_121_1, s_121_2, s_121_5, s_121_8, s_121_9, s_121_12, s_121_15, s_121_16, s_121_17, s_121_20, s_121_23, s_121_26, s_121_29, s_121_30, s_121_31, s_121_32, s_121_35, s_121_36, s_121_37, s_121_38, s_121_39, s_121_40, s_121_41, s_121_43, s_121_44, s_121_47, s_121_48, s_121_49, s_121_50, s_121_51, s_121_52, s_121_53, s_121_56, s_121_58, s_121_61, s_121_62, s_121_63, s_121_65, c_X7_isChild w1 c1, c_X7_isThing, c_X7_in, ap_some, bI_0, hx, hy, if_true, if_false, Bool.true_eq_false, i_add, i_mul, i_in, i_cl, true_and, e1, z3]
    rw [if_neg (by rw [decide_eq_false_iff_not, Int32.toInt_toInt64, lN_toInt (by decide), zi]; intro q; apply q; show (-1 : Int) ≤ _ ∧ _; split <;> omega), Nat.mul_comm 4 c]
    by_cases hk97 : k = 97
    · subst hk97
      rw [if_pos rfl]
    · rw [if_neg hk97, hz, if_neg hk97]
end O1
