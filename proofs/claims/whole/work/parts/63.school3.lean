/-! school: both alike -/
def setK (S : Nat → Nat → Nat) (c s : Nat) : Nat → Nat → Nat := fun r j => if r = 2 ∧ c * 4 ≤ j ∧ j < c * 4 + 4 then (if s.testBit (j - c * 4) then 0 else 97) else S r j
def scS (S : Nat → Nat → Nat) : Nat → Nat → Nat := upS (upS S 0 0 0) 5 0 0
section S3
variable {d : Nat} {Q : Option Value → ex_H → Prop} {lx : Nat} {xs : Nat → Int32} {M M1 : Nat → Nat → Int32} {S K0 D : Nat → Nat → Nat} {hk : Bool} {n c s i k K : Nat} {T : Nat → Nat} {Z : Nat → stZ}
theorem setK_row {r : Nat} (h : r ≠ 2) : setK S c s r = S r := by funext j; unfold setK; rw [if_neg (fun q => h q.1)]
theorem setK_in {j : Nat} (h : c * 4 ≤ j ∧ j < c * 4 + 4) : setK S c s 2 j = if s.testBit (j - c * 4) then 0 else 97 := if_pos ⟨rfl, h⟩
theorem setK_out {j : Nat} (h : ¬ (c * 4 ≤ j ∧ j < c * 4 + 4)) : setK S c s 2 j = S 2 j := if_neg (fun q => h q.2)
theorem setK_kn (hs : s < 16) : kn (setK S c s 2) c = s := by
  refine kn_ext (kn_lt _ _) hs fun t ht => ?_
  rw [kn_bit _ _ ht, setK_in (by omega), Nat.add_sub_cancel_left]
  cases s.testBit t <;> simp
theorem setK_WF (hW : WF S) : WF (setK S c s) := by
  obtain ⟨w1, w2, w3, w4, w5, w6, w7, w8, w9⟩ := hW
  refine ⟨?_, ?_, ?_, ?_, ?_, ?_, ?_, ?_, ?_⟩
  all_goals try simp only [setK_row (by decide : (0 : Nat) ≠ 2), setK_row (by decide : (1 : Nat) ≠ 2), setK_row (by decide : (3 : Nat) ≠ 2), setK_row (by decide : (4 : Nat) ≠ 2), setK_row (by decide : (5 : Nat) ≠ 2), setK_row (by decide : (6 : Nat) ≠ 2), setK_row (by decide : (7 : Nat) ≠ 2), setK_row (by decide : (8 : Nat) ≠ 2), setK_row (by decide : (9 : Nat) ≠ 2)]
  all_goals try assumption
  intro j hj
  by_cases h : c * 4 ≤ j ∧ j < c * 4 + 4
  · rw [setK_in h]; split <;> decide
  · rw [setK_out h]; exact w5 j hj
theorem RepC_setK (hC : RepC M 2 S) (hs : s < 16) : RepC (up (up (up (up (up M 4 (c * 4) (nI (if s.testBit 0 then 0 else 97))) 4 (c * 4 + 1) (nI (if s.testBit 1 then 0 else 97))) 4 (c * 4 + 2) (nI (if s.testBit 2 then 0 else 97))) 4 (c * 4 + 3) (nI (if s.testBit 3 then 0 else 97))) 5 c (nI s)) 2 (setK S c s) := by
  obtain ⟨c1, c2, c3, c4, c5, c6, c7, c8, c9, c10, c11, c12⟩ := hC
  simp only [Nat.reduceAdd] at c4 c5 c6 c7 c8 c9 c10 c11 c12
  have rr : ∀ r, r ≠ 2 → setK S c s r = S r := fun r h => setK_row h
  refine ⟨?_, ?_, ?_, ?_, ?_, ?_, ?_, ?_, ?_, ?_, ?_, ?_⟩
  all_goals try simp only [Nat.reduceAdd, rr 0 (by decide), rr 1 (by decide), rr 3 (by decide), rr 4 (by decide), rr 5 (by decide), rr 6 (by decide), rr 7 (by decide), rr 8 (by decide), hrs_row (rr 9 (by decide)) (rr 5 (by decide)), opn_row (rr 9 (by decide))]
  · simp (disch := omega) only [up_ne]; exact c1
  · simp (disch := omega) only [up_ne]; exact c2
  · simp (disch := omega) only [up_ne]; exact c3
  · simp (disch := omega) only [up_ne]; exact c4
  · intro j hj
    rw [up_ne _ _ _ (by decide)]
    by_cases h : c * 4 ≤ j ∧ j < c * 4 + 4
    · rw [setK_in h]
      rcases (by omega : j = c * 4 ∨ j = c * 4 + 1 ∨ j = c * 4 + 2 ∨ j = c * 4 + 3) with rfl | rfl | rfl | rfl
      · rw [up_off (by omega), up_off (by omega), up_off (by omega), up_at, Nat.sub_self]
      · rw [up_off (by omega), up_off (by omega), up_at, Nat.add_sub_cancel_left]
      · rw [up_off (by omega), up_at, Nat.add_sub_cancel_left]
      · rw [up_at, Nat.add_sub_cancel_left]
    · rw [setK_out h, up_off (by omega), up_off (by omega), up_off (by omega), up_off (by omega)]
      exact c5 j hj
  · intro i hi
    by_cases h : i = c
    · subst h; rw [up_at, setK_kn hs]
    · rw [up_off h, up_ne _ _ _ (by decide), up_ne _ _ _ (by decide), up_ne _ _ _ (by decide), up_ne _ _ _ (by decide), c6 i hi]
      congr 1
      exact (kn_off fun t2 ht2 => setK_out (by omega)).symm
  · simp (disch := omega) only [up_ne]; exact c7
  · simp (disch := omega) only [up_ne]; exact c8
  · simp (disch := omega) only [up_ne]; exact c9
  · simp (disch := omega) only [up_ne]; exact c10
  · simp (disch := omega) only [up_ne]; exact c11
  · simp (disch := omega) only [up_ne]; exact c12
theorem RepM_setK (hC : RepM M S) : RepM (upr M 56 (rng (M 56) (fun j => nI (if s.testBit (j - c * 4) then 0 else 97)) (c * 4) 4)) (setK S c s) := by
  obtain ⟨c1, c2, c3, c4, c5, c6, c7, c8, c9⟩ := hC
  have rr : ∀ r, r ≠ 2 → setK S c s r = S r := fun r h => setK_row h
  refine ⟨?_, ?_, ?_, ?_, ?_, ?_, ?_, ?_, ?_⟩
  all_goals try simp only [rr 0 (by decide), rr 1 (by decide), rr 3 (by decide), rr 4 (by decide), rr 5 (by decide), rr 6 (by decide), rr 7 (by decide), rr 8 (by decide), rr 9 (by decide)]
  · rw [upr_ne _ _ (by decide)]; exact c1
  · rw [upr_ne _ _ (by decide)]; exact c2
  · rw [upr_ne _ _ (by decide)]; exact c3
  · rw [upr_ne _ _ (by decide)]; exact c4
  · intro j hj
    rw [upr_eq]
    by_cases h : c * 4 ≤ j ∧ j < c * 4 + 4
    · rw [setK_in h, rng_in h]
    · rw [setK_out h, rng_out h]; exact c5 j hj
  · rw [upr_ne _ _ (by decide)]; exact c6
  · rw [upr_ne _ _ (by decide)]; exact c7
  · rw [upr_ne _ _ (by decide)]; exact c8
  · rw [upr_ne _ _ (by decide)]; exact c9
theorem scS_WF (hW : WF S) : WF (scS S) := by
  obtain ⟨w1, w2, w3, w4, w5, w6, w7, w8, w9⟩ := hW
  have e0 : scS S 0 0 = 0 := by unfold scS; rw [upS_row (by decide), upS_at]
  have e01 : ∀ j, j ≠ 0 → scS S 0 j = S 0 j := fun j hj => by unfold scS; rw [upS_row (by decide), upS_off (fun q => hj q.2)]
  have rr : ∀ r, r ≠ 0 → r ≠ 5 → scS S r = S r := fun r h1 h2 => by unfold scS; rw [upS_row h2, upS_row h1]
  have e5 : scS S 5 0 = 0 := by unfold scS; rw [upS_at]
  refine ⟨by rw [e0]; omega, by rw [e01 1 (by decide)]; exact w2, ⟨by rw [e01 2 (by decide)]; exact w3.1, fun c hc => by rw [e0] at hc; omega⟩, ?_, ?_, ?_, ?_, by rw [e5]; omega, fun i hi => by rw [e5] at hi; omega⟩
  · rw [rr 1 (by decide) (by decide)]; exact w4
  · rw [rr 2 (by decide) (by decide)]; exact w5
  · rw [rr 3 (by decide) (by decide)]; exact w6
  · rw [rr 4 (by decide) (by decide)]; exact w7
theorem RepC_scS (hC : RepC M 2 S) : RepC (up (up (up M 2 0 (nI 0)) 8 0 (nI 0)) 8 1 (nI 0)) 2 (scS S) := by
  obtain ⟨c1, c2, c3, c4, c5, c6, c7, c8, c9, c10, c11, c12⟩ := hC
  simp only [Nat.reduceAdd] at c4 c5 c6 c7 c8 c9 c10 c11 c12
  have e0 : scS S 0 0 = 0 := by unfold scS; rw [upS_row (by decide), upS_at]
  have e01 : ∀ j, j ≠ 0 → scS S 0 j = S 0 j := fun j hj => by unfold scS; rw [upS_row (by decide), upS_off (fun q => hj q.2)]
  have rr : ∀ r, r ≠ 0 → r ≠ 5 → scS S r = S r := fun r h1 h2 => by unfold scS; rw [upS_row h2, upS_row h1]
  have e5 : scS S 5 0 = 0 := by unfold scS; rw [upS_at]
  refine ⟨?_, ?_, ?_, ?_, ?_, ?_, ?_, ?_, ?_, ?_, ?_, ?_⟩
  all_goals try simp only [Nat.reduceAdd]
  · rw [e0, up_ne _ _ _ (by decide), up_ne _ _ _ (by decide), up_at]
  · rw [e01 1 (by decide), up_ne _ _ _ (by decide), up_ne _ _ _ (by decide), up_off (by decide)]; exact c2
  · rw [e01 2 (by decide), up_ne _ _ _ (by decide), up_ne _ _ _ (by decide), up_off (by decide)]; exact c3
  · simp (disch := omega) only [up_ne, rr 1 (by decide) (by decide)]; exact c4
  · simp (disch := omega) only [up_ne, rr 2 (by decide) (by decide)]; exact c5
  · intro i hi; rw [e0] at hi; omega
  · simp (disch := omega) only [up_ne, rr 3 (by decide) (by decide)]; exact c7
  · simp (disch := omega) only [up_ne, rr 4 (by decide) (by decide)]; exact c8
  · rw [e5, up_off (by decide), up_at]
  · rw [up_at]; unfold hrs; rw [if_pos e5]
  · intro i hi; rw [e5] at hi; omega
  · intro i hi; rw [e5] at hi; omega
theorem RepM_scS (hC : RepM M S) : RepM (up (up M 53 4 (nI 0)) 53 6 (nI 0)) (scS S) := by
  obtain ⟨c1, c2, c3, c4, c5, c6, c7, c8, c9⟩ := hC
  have e0 : scS S 0 0 = 0 := by unfold scS; rw [upS_row (by decide), upS_at]
  have e01 : ∀ j, j ≠ 0 → scS S 0 j = S 0 j := fun j hj => by unfold scS; rw [upS_row (by decide), upS_off (fun q => hj q.2)]
  have rr : ∀ r, r ≠ 0 → r ≠ 5 → scS S r = S r := fun r h1 h2 => by unfold scS; rw [upS_row h2, upS_row h1]
  have e5 : scS S 5 0 = 0 := by unfold scS; rw [upS_at]
  refine ⟨?_, ?_, ?_, ?_, ?_, ?_, ?_, ?_, ?_⟩
  · rw [e0, up_off (by decide), up_at]
  · rw [e01 1 (by decide), up_off (by decide), up_off (by decide)]; exact c2
  · rw [e01 2 (by decide), up_off (by decide), up_off (by decide)]; exact c3
  · simp (disch := omega) only [up_ne, rr 1 (by decide) (by decide)]; exact c4
  · simp (disch := omega) only [up_ne, rr 2 (by decide) (by decide)]; exact c5
  · simp (disch := omega) only [up_ne, rr 3 (by decide) (by decide)]; exact c6
  · simp (disch := omega) only [up_ne, rr 4 (by decide) (by decide)]; exact c7
  · rw [e5, up_at]
  · intro i hi; rw [e5] at hi; omega
theorem sl_both (hK : K ≤ 6) (hD : DW D K) : ∀ m i S, i + m = K → S 0 0 = i → WF S → ∃ S1, WF S1 ∧
  (∀ lx xs M, RepC M 2 S → KB M 5 → DC M K D → ∃ M1, RepC M1 2 S1 ∧ KB M1 5 ∧ (∀ c, c < 2 ∨ 6 < c → M1 c = M c) ∧ ∀ d Q, Go (d + 4) 23 30 [some (.ref 1), some (.int (nI K)), some (.int (nI i))] [] (HP lx xs M) Q = Q (some (.int (nI K))) (HP lx xs M1)) ∧
  (∀ lx xs M, RepM M S → DM M K D → M 53 12 = nI K → ∃ M1, RepM M1 S1 ∧ (∀ c, c < 53 ∨ 56 < c → M1 c = M c) ∧ (∀ j, j ≠ 4 → M1 53 j = M 53 j) ∧ ∀ d Q o3, Go (d + 2) 133 43 [some (.ref 53), some (.int (nI 1)), some (.int (nI i)), o3] [] (HP lx xs M) Q = Q (some (.int (nI K))) (HP lx xs M1)) := by
  intro m
  induction m with
  | zero =>
    intro i S hi h0 hW
    have e : i = K := by omega
    subst e
    refine ⟨S, hW, fun lx xs M hC hB hd => ⟨M, hC, hB, fun _ _ => rfl, fun d Q => ?_⟩, fun lx xs M hC hd h12 => ⟨M, hC, fun _ _ => rfl, fun _ _ => rfl, fun d Q o3 => ?_⟩⟩
    · rw [s_23_30]
      simp (disch := omega) only [s_23_31, s_23_32, s_23_35, s_23_36, s_23_38, s_23_41, s_23_42, s_23_45, s_23_46, s_23_49, s_23_52, s_23_53, s_23_54, s_23_57, s_23_58, s_23_59, s_23_62, s_23_63, s_23_64, s_23_67, s_23_70, s_23_71, s_23_72, s_23_75, s_23_78, s_23_81, s_23_82, ↓reduceIte, i_lt, Nat.lt_irrefl]
    · have c1 := hC.1
      rw [h0] at c1
      rw [s_133_43]
      simp (disch := omega) only [s_133_44, s_133_45, s_133_48, s_133_115, s_133_116, s_133_119, ↓reduceIte, h12, i_lt, Nat.lt_irrefl, c1]
  | succ m ih =>
    intro i S hi h0 hW
    obtain ⟨hkd, hst⟩ := hD i (by omega)
    have hiK : i < K := by omega
    have hi6 : i < 6 := by omega
    have hn : S 0 0 < 6 := by omega
    have w6 := hW.2.2.2.2.2.1
    have e00 : setK (addS S (D 0 i)) i (D 1 i) 0 0 = i + 1 := by rw [setK_row (by decide)]; show S 0 0 + 1 = i + 1; omega
    obtain ⟨S1, W1, r6, r7⟩ := ih (i + 1) (setK (addS S (D 0 i)) i (D 1 i)) (by omega) e00 (setK_WF (addS_WF hW hn hkd))
    refine ⟨S1, W1, fun lx xs M hC hB hd => ?_, fun lx xs M hC hd h12 => ?_⟩
    · have c7 := hC.2.2.2.2.2.2.1
      simp only [Nat.reduceAdd] at c7
      have ad := fun d Q => c_X3_admit (d := d) (Q := Q) (lx := lx) (xs := xs) (k := D 0 i) hn hkd hC.1 c7 w6 hB
      have RA := RepC_add (k := D 0 i) hC hn
      have KA : KB (up (up (up (up (up (up (up (up (upr M 6 (flt (fun i => nI (S 3 i ||| 2 ^ S 0 0)) (M 6) (S 0 0))) 6 (S 0 0) (nI (2 ^ S 0 0 - 1))) 3 (S 0 0) (nI (D 0 i))) 4 (S 0 0 * 4) (nI 97)) 4 (S 0 0 * 4 + 1) (nI 97)) 4 (S 0 0 * 4 + 2) (nI 97)) 4 (S 0 0 * 4 + 3) (nI 97)) 5 (S 0 0) (nI 0)) 2 0 (nI (S 0 0 + 1))) 5 := KB_ne (KB_at (KB_ne (KB_ne (KB_ne (KB_ne (KB_ne (KB_ne (KB_upr hB 6 _ (by decide)) _ _ (by decide)) _ _ (by decide)) _ _ (by decide)) _ _ (by decide)) _ _ (by decide)) _ _ (by decide)) _ (by decide)) _ _ (by decide)
      have FA : ∀ c, c < 2 ∨ 6 < c → (up (up (up (up (up (up (up (up (upr M 6 (flt (fun i => nI (S 3 i ||| 2 ^ S 0 0)) (M 6) (S 0 0))) 6 (S 0 0) (nI (2 ^ S 0 0 - 1))) 3 (S 0 0) (nI (D 0 i))) 4 (S 0 0 * 4) (nI 97)) 4 (S 0 0 * 4 + 1) (nI 97)) 4 (S 0 0 * 4 + 2) (nI 97)) 4 (S 0 0 * 4 + 3) (nI 97)) 5 (S 0 0) (nI 0)) 2 0 (nI (S 0 0 + 1))) c = M c := fun c hc => by
        simp (disch := omega) only [up_ne, upr_ne]
      generalize (up (up (up (up (up (up (up (up (upr M 6 (flt (fun i => nI (S 3 i ||| 2 ^ S 0 0)) (M 6) (S 0 0))) 6 (S 0 0) (nI (2 ^ S 0 0 - 1))) 3 (S 0 0) (nI (D 0 i))) 4 (S 0 0 * 4) (nI 97)) 4 (S 0 0 * 4 + 1) (nI 97)) 4 (S 0 0 * 4 + 2) (nI 97)) 4 (S 0 0 * 4 + 3) (nI 97)) 5 (S 0 0) (nI 0)) 2 0 (nI (S 0 0 + 1))) = A at *
      have sk := fun d Q => c_X3_setKnown (d := d) (Q := Q) (lx := lx) (xs := xs) (M := A) hi6 hst KA
      have RB := RepC_setK (c := i) RA hst
      have KBb : KB (up (up (up (up (up A 4 (i * 4) (nI (if (D 1 i).testBit 0 then 0 else 97))) 4 (i * 4 + 1) (nI (if (D 1 i).testBit 1 then 0 else 97))) 4 (i * 4 + 2) (nI (if (D 1 i).testBit 2 then 0 else 97))) 4 (i * 4 + 3) (nI (if (D 1 i).testBit 3 then 0 else 97))) 5 i (nI (D 1 i))) 5 := KB_at (KB_ne (KB_ne (KB_ne (KB_ne KA _ _ (by decide)) _ _ (by decide)) _ _ (by decide)) _ _ (by decide)) _ hst
      have FB : ∀ c, c < 2 ∨ 6 < c → (up (up (up (up (up A 4 (i * 4) (nI (if (D 1 i).testBit 0 then 0 else 97))) 4 (i * 4 + 1) (nI (if (D 1 i).testBit 1 then 0 else 97))) 4 (i * 4 + 2) (nI (if (D 1 i).testBit 2 then 0 else 97))) 4 (i * 4 + 3) (nI (if (D 1 i).testBit 3 then 0 else 97))) 5 i (nI (D 1 i))) c = M c := fun c hc => by
        simp (disch := omega) only [up_ne]
        exact FA c hc
      generalize (up (up (up (up (up A 4 (i * 4) (nI (if (D 1 i).testBit 0 then 0 else 97))) 4 (i * 4 + 1) (nI (if (D 1 i).testBit 1 then 0 else 97))) 4 (i * 4 + 2) (nI (if (D 1 i).testBit 2 then 0 else 97))) 4 (i * 4 + 3) (nI (if (D 1 i).testBit 3 then 0 else 97))) 5 i (nI (D 1 i))) = B at *
      obtain ⟨M1, q1, q2, q3, q4⟩ := r6 lx xs B RB KBb (fun j hj => by rw [FB 29 (by omega), FB 30 (by omega)]; exact hd j hj)
      refine ⟨M1, q1, q2, fun c hc => (q3 c hc).trans (FB c hc), fun d Q => ?_⟩
      have d0 := (hd i hiK).1
      have d1 : A 30 i = nI (D 1 i) := by rw [FA 30 (by omega)]; exact (hd i hiK).2
      rw [s_23_30]
      simp (disch := omega) only [s_23_31, s_23_32, s_23_35, s_23_36, s_23_38, s_23_41, s_23_42, s_23_45, s_23_46, s_23_49, s_23_52, s_23_53, s_23_54, s_23_57, s_23_58, s_23_59, s_23_62, s_23_63, s_23_64, s_23_67, s_23_70, s_23_71, s_23_72, s_23_75, s_23_78, ↓reduceIte, i_lt, hiK, hi6, i_in, i_cl, true_and, d0, ad, ap_some, ap_none, d1, sk, i_add]
      exact q4 d Q
    · have ad := fun d Q => c_X7_add (d := d) (Q := Q) (lx := lx) (xs := xs) (k := D 0 i) hn hkd hC.1 hC.2.2.2.2.2.1 w6
      have RA := RepM_add (k := D 0 i) hC hn
      have FA : ∀ c, c < 53 ∨ 56 < c → (up (up (up (up (up (upr (up M 54 (S 0 0) (nI (D 0 i))) 55 (hdG (M 55) (S 3) (S 0 0) (S 0 0))) 56 (S 0 0 * 4) (nI 97)) 56 (S 0 0 * 4 + 1) (nI 97)) 56 (S 0 0 * 4 + 2) (nI 97)) 56 (S 0 0 * 4 + 3) (nI 97)) 53 4 (nI (S 0 0 + 1))) c = M c := fun c hc => by
        simp (disch := omega) only [up_ne, upr_ne]
      have FJ : ∀ j, j ≠ 4 → (up (up (up (up (up (upr (up M 54 (S 0 0) (nI (D 0 i))) 55 (hdG (M 55) (S 3) (S 0 0) (S 0 0))) 56 (S 0 0 * 4) (nI 97)) 56 (S 0 0 * 4 + 1) (nI 97)) 56 (S 0 0 * 4 + 2) (nI 97)) 56 (S 0 0 * 4 + 3) (nI 97)) 53 4 (nI (S 0 0 + 1))) 53 j = M 53 j := fun j hj => by
        rw [up_off hj]
        simp (disch := omega) only [up_ne, upr_ne]
      generalize (up (up (up (up (up (upr (up M 54 (S 0 0) (nI (D 0 i))) 55 (hdG (M 55) (S 3) (S 0 0) (S 0 0))) 56 (S 0 0 * 4) (nI 97)) 56 (S 0 0 * 4 + 1) (nI 97)) 56 (S 0 0 * 4 + 2) (nI 97)) 56 (S 0 0 * 4 + 3) (nI 97)) 53 4 (nI (S 0 0 + 1))) = A at *
      have RB := RepM_setK (c := i) (s := D 1 i) RA
      obtain ⟨M1, q1, q2, q3, q4⟩ := r7 lx xs (upr A 56 (rng (A 56) (fun j => nI (if (D 1 i).testBit (j - i * 4) then 0 else 97)) (i * 4) 4)) RB (fun j hj => by rw [upr_ne _ _ (by decide), FA 60 (by omega)]; exact hd j hj) (by rw [upr_ne _ _ (by decide), FJ 12 (by decide)]; exact h12)
      refine ⟨M1, q1, fun c hc => (q2 c hc).trans ((upr_ne _ _ (by omega)).trans (FA c hc)), fun j hj => (q3 j hj).trans (by rw [upr_ne _ _ (by decide)]; exact FJ j hj), fun d Q o3 => ?_⟩
      have d0 := (hd i hiK).1
      have d1 : A 60 (2 * i + 1) = nI (D 1 i) := by rw [FA 60 (by omega)]; exact (hd i hiK).2
      have lp := loopN (fun j => Go (d + 2) 133 65 [some (.ref 53), some (.int (nI 1)), some (.int (nI i)), some (.int (nI j))] [] (HP lx xs (upr A 56 (rng (A 56) (fun j => nI (if (D 1 i).testBit (j - i * 4) then 0 else 97)) (i * 4) j))) Q) 4 fun j hj => by
        show Go (d + 2) _ 65 _ _ _ _ = Go (d + 2) _ 65 _ _ _ _
        rw [s_133_65, ← rng_up, Nat.add_sub_cancel_left]
        cases hb : (D 1 i).testBit j <;> simp (disch := omega) only [s_133_66, s_133_67, s_133_70, s_133_71, s_133_74, s_133_75, s_133_76, s_133_77, s_133_78, s_133_79, s_133_80, s_133_83, s_133_84, s_133_85, s_133_86, s_133_87, s_133_88, s_133_89, s_133_90, s_133_93, s_133_96, s_133_97, s_133_100, s_133_102, s_133_103, s_133_106, ↓reduceIte, i_lt, hj, i_mul, i_add, i_in, i_cl, true_and, upr_ne, d1, c_X7_has, hb, ap_some, bI_0, Bool.true_eq_false, up_upr, Bool.false_eq_true] <;> rw [Nat.mul_comm 4 i]
      try dsimp only at lp
      rw [rng_0, upr_self] at lp
      rw [s_133_43]
      simp (disch := omega) only [s_133_44, s_133_45, s_133_48, s_133_51, s_133_52, s_133_53, s_133_56, s_133_57, s_133_58, s_133_59, s_133_60, s_133_63, s_133_64, ↓reduceIte, h12, i_lt, hiK, i_mul, i_in, i_cl, true_and, d0, ad, ap_none]
      rw [lp, s_133_65]
      simp (disch := omega) only [s_133_66, s_133_67, s_133_109, s_133_112, ↓reduceIte, i_lt, Nat.lt_irrefl, i_add]
      exact q4 d Q _
theorem op_school (hA : WA S hk K0 n T Z) : opA 23 133 [some (.ref 1), none, none] [some (.ref 53), none, none, none] S hk K0 n T Z := by
  obtain ⟨hW, hWK, hn, t4, hZ⟩ := hA
  have w1 := hW.1
  have i0 := sk_idem (T := T) (Nat.zero_le n)
  have s6 : ∀ lx xs M, RepAC M S hk K0 n T Z → ∃ A, frR M A ∧ TPC A n T ∧ A 28 5 = nI (sk T n 0) ∧ ∀ d Q, Go (d + 3) 87 0 [some (.ref 28), none] [] (HP lx xs M) Q = Go (d + 3) 87 30 [some (.ref 28), some (.int (nI 0))] [] (HP lx xs A) Q := by
    intro lx xs M hR
    have hT : TPC M n T := ⟨hR.2.2.2.2.1, hR.2.2.2.2.2.1, hn, t4⟩
    refine ⟨up M 28 5 (nI (sk T n 0)), frR_up (fun c _ _ _ _ _ _ => rfl) (by omega), TPC_up hT, up_at, fun d Q => ?_⟩
    simp (disch := omega) only [s_87_0, s_87_1, s_87_4, s_87_5, s_87_6, s_87_7, s_87_9, s_87_12, s_87_13, s_87_16, s_87_17, s_87_19, s_87_22, s_87_25, s_87_26, s_87_29, ↓reduceIte, c_X1_rewind hT, ap_none, i_lt, Nat.reduceLT, i_0l, Nat.lt_irrefl]
  rcases sc_both (T := T) (n := n) hn t4 5 0 (sk T n 0) (fun _ _ => 0) (by omega) (sk_le (Nat.zero_le n)) i0 (fun i hi => by omega) with ⟨f, f1, f6, f7⟩ | ⟨K, D1, g1, g2, g3, g6, g7⟩
  · refine ⟨-20 - nI f, S, hk, K0, 0, T, Z, ⟨hW, hWK, by omega, fun i hi => by omega, hZ⟩, fun lx xs M hR => ?_, fun lx xs M hR => ?_⟩
    · obtain ⟨A, a1, a2, a3, a5⟩ := s6 lx xs M hR
      obtain ⟨M1, u1, u2⟩ := f6 lx xs A a2 a3 (fun i hi => by omega)
      have fr := frR_tr a1 u1
      refine ⟨up M1 28 4 (nI 0), RepAC_ft hR (RepC_eq hR.1 fun c p q => by rw [up_ne _ _ _ (by omega)]; exact fr c (by omega) (by omega) (by omega) (by omega) (by omega) (by omega)) (fun i hi => by rw [up_ne _ _ _ (by decide), fr 5 (by omega) (by omega) (by omega) (by omega) (by omega) (by omega)]; exact hR.2.1 i hi) (fun c hc => by rw [up_ne _ _ _ (by omega)]; exact fr c (by omega) (by omega) (by omega) (by omega) (by omega) (by omega)) up_at, fun c hc => by rw [up_ne _ _ _ (by omega)]; exact fr c (by omega) (by omega) (by omega) (by omega) (by omega) (by omega), fun Q => ?_⟩
      have a6 := a5 1995
      have u3 := u2 1995
      simp only [Nat.reduceAdd] at a6 u3
      simp (disch := omega) only [s_23_0, s_23_1, s_23_4, s_23_7, s_23_8, s_23_9, s_23_12, s_23_15, s_23_16, s_23_19, s_23_20, s_80_0, s_80_1, s_80_2, s_80_5, ↓reduceIte, a6, u3, ap_some, ap_none, m20]
    · have hT : TPM M n T := ⟨hR.2.2.2.1, hR.2.2.2.2.1, hn, t4⟩
      obtain ⟨M1, p', u1, u2, u3, u4, u5⟩ := f7 lx xs (up M 53 11 (nI 0)) 0 (TPM_up hT (by decide)) up_at (Nat.zero_le n) rfl (fun i hi => by omega)
      have fr : frQ M M1 := frQ_tr (frQ_up ⟨fun _ _ _ => rfl, fun _ _ _ => rfl⟩ (by omega)) u1
      have nb := fun d Q => c_X7_nextByte (d := d) (Q := Q) (lx := lx) (xs := xs) (frQ_TPM hT fr) u2 u3
      rw [u4] at nb
      refine ⟨up (up M1 53 11 (nI f)) 53 10 (nI 0), RepAM_ft hR (RepM_eq hR.1 (fun j h1 h2 => by rw [up_off (by omega), up_off (by omega)]; exact fr.2 j (by omega) (by omega)) (fun c h1 h2 => by rw [up_ne _ _ _ (by omega), up_ne _ _ _ (by omega)]; exact fr.1 c (by omega) (by omega))) (fun c hc => by rw [up_ne _ _ _ (by omega), up_ne _ _ _ (by omega)]; exact fr.1 c (by omega) (by omega)) (by rw [up_off (by decide), up_off (by decide)]; exact fr.2 28 (by decide) (by decide)) up_at, fun c hc => by rw [up_ne _ _ _ (by omega), up_ne _ _ _ (by omega)]; exact fr.1 c (by omega) (by omega), fun Q => ?_⟩
      have u6 := u5 1996
      simp only [Nat.reduceAdd] at u6
      have rp : ∀ Q, Go 1998 132 0 [some (.ref 53), none, none] [] (HP lx xs M) Q = Q (some (.int (nI 0))) (HP lx xs M1) := fun Q => by
        simp (disch := omega) only [s_132_0, s_132_1, s_132_2, s_132_5, s_132_6, u6]
      simp (disch := omega) only [s_133_0, s_133_1, s_133_4, s_133_5, s_133_6, s_133_9, s_133_10, s_133_13, s_133_14, s_133_15, s_133_16, s_133_19, s_133_20, s_133_23, s_133_25, s_133_26, s_133_29, s_133_30, ↓reduceIte, rp, ap_some, n0_0, nb, up_off, up_at]
  · have e0 : scS S 0 0 = 0 := by unfold scS; rw [upS_row (by decide), upS_at]
    obtain ⟨S1, W1, r6, r7⟩ := sl_both g2 g3 K 0 (scS S) (by omega) e0 (scS_WF hW)
    refine ⟨nI K, S1, hk, K0, 0, T, Z, ⟨W1, hWK, by omega, fun i hi => by omega, hZ⟩, fun lx xs M hR => ?_, fun lx xs M hR => ?_⟩
    · obtain ⟨A, a1, a2, a3, a5⟩ := s6 lx xs M hR
      obtain ⟨M1, u1, u3, u2⟩ := g6 lx xs A a2 a3 (fun i hi => by omega)
      have fr := frR_tr a1 u1
      have hC1 : RepC (up M1 28 4 (nI 0)) 2 S := RepC_eq hR.1 fun c p q => by rw [up_ne _ _ _ (by omega)]; exact fr c (by omega) (by omega) (by omega) (by omega) (by omega) (by omega)
      obtain ⟨M2, v1, v2, v3, v4⟩ := r6 lx xs (up (up (up (up M1 28 4 (nI 0)) 2 0 (nI 0)) 8 0 (nI 0)) 8 1 (nI 0)) (RepC_scS hC1) (fun i hi => by simp (disch := omega) only [up_ne]; rw [fr 5 (by omega) (by omega) (by omega) (by omega) (by omega) (by omega)]; exact hR.2.1 i hi) (fun i hi => by simp (disch := omega) only [up_ne]; exact u3 i hi)
      have fr2 : ∀ c, c = 1 ∨ (15 ≤ c ∧ c < 28) ∨ 33 < c → M2 c = M c := fun c hc => by
        rw [v3 c (by omega)]
        simp (disch := omega) only [up_ne]
        exact fr c (by omega) (by omega) (by omega) (by omega) (by omega) (by omega)
      refine ⟨M2, RepAC_ft hR v1 v2 (fun c hc => fr2 c (by omega)) (by rw [v3 28 (by omega)]; simp (disch := omega) only [up_ne]; exact up_at), fun c hc => fr2 c (by omega), fun Q => ?_⟩
      have a6 := a5 1995
      have u4 := u2 1995
      have v5 := v4 1995
      simp only [Nat.reduceAdd] at a6 u4 v5
      simp (disch := omega) only [s_23_0, s_23_1, s_23_4, s_23_7, s_23_8, s_23_9, s_23_12, s_23_15, s_23_16, s_23_19, s_23_20, s_23_21, s_23_22, s_23_25, s_23_28, s_23_29, s_80_0, s_80_1, s_80_2, s_80_5, s_63_0, s_63_1, s_63_2, s_63_5, s_63_6, s_63_9, s_63_12, s_8_0, s_8_1, s_8_2_8, s_8_2_21, s_8_2_31, s_8_5, s_8_6, s_8_7_8, s_8_7_21, s_8_7_31, s_8_10, ↓reduceIte, a6, u4, ap_some, ap_none, i_l0]
      exact v5 Q
    · have hT : TPM M n T := ⟨hR.2.2.2.1, hR.2.2.2.2.1, hn, t4⟩
      obtain ⟨M1, u1, u2, u3, u5⟩ := g7 lx xs (up M 53 11 (nI 0)) 0 (TPM_up hT (by decide)) up_at (Nat.zero_le n) rfl (fun i hi => by omega)
      have fr : frQ M M1 := frQ_tr (frQ_up ⟨fun _ _ _ => rfl, fun _ _ _ => rfl⟩ (by omega)) u1
      have u6 := u5 1996
      simp only [Nat.reduceAdd] at u6
      have rp : ∀ Q, Go 1998 132 0 [some (.ref 53), none, none] [] (HP lx xs M) Q = Q (some (.int (nI 1))) (HP lx xs M1) := fun Q => by
        simp (disch := omega) only [s_132_0, s_132_1, s_132_2, s_132_5, s_132_6, u6]
      have hC1 : RepM (up M1 53 10 (nI 0)) S := RepM_eq hR.1 (fun j h1 h2 => by rw [up_off (by omega)]; exact fr.2 j (by omega) (by omega)) (fun c h1 h2 => by rw [up_ne _ _ _ (by omega)]; exact fr.1 c (by omega) (by omega))
      obtain ⟨M2, v1, v2, v3, v4⟩ := r7 lx xs (up (up (up M1 53 10 (nI 0)) 53 4 (nI 0)) 53 6 (nI 0)) (RepM_scS hC1) (fun i hi => by simp (disch := omega) only [up_ne]; exact u3 i hi) (by simp (disch := omega) only [up_off]; exact u2)
      have fr2 : ∀ c, c < 53 ∨ 60 < c → M2 c = M c := fun c hc => by
        rw [v2 c (by omega)]
        simp (disch := omega) only [up_ne]
        exact fr.1 c (by omega) (by omega)
      refine ⟨M2, RepAM_ft hR v1 (fun c hc => fr2 c (by omega)) (by rw [v3 28 (by decide)]; simp (disch := omega) only [up_off]; exact fr.2 28 (by decide) (by decide)) (by rw [v3 10 (by decide)]; simp (disch := omega) only [up_off]; exact up_at), fun c hc => fr2 c (by omega), fun Q => ?_⟩
      have v5 := v4 1997
      simp only [Nat.reduceAdd] at v5
      simp (disch := omega) only [s_133_0, s_133_1, s_133_4, s_133_5, s_133_6, s_133_9, s_133_10, s_133_13, s_133_14, s_133_15, s_133_16, s_133_19, s_133_20, s_133_23, s_133_25, s_133_26, s_133_29, s_133_30, s_133_31, s_133_32, s_133_33, s_133_36, s_133_37, s_133_38, s_133_41, s_133_42, ↓reduceIte, rp, ap_some, n1_0]
      exact v5 Q none
end S3
