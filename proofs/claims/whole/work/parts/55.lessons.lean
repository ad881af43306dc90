/-! lessons: class and reference alike -/
def ls (p : Nat → Bool) (i : Nat) : List Nat := (List.range i).filter p
theorem ls_s (p : Nat → Bool) (i : Nat) : ls p (i + 1) = if p i = true then ls p i ++ [i] else ls p i := by
  unfold ls
  rw [List.range_succ, List.filter_append]
  cases h : p i <;> simp [h]
theorem ls_le (p : Nat → Bool) (i : Nat) : (ls p i).length ≤ i := by
  unfold ls
  exact Nat.le_trans (List.length_filter_le _ _) (by rw [List.length_range]; exact Nat.le_refl _)
theorem ls_mono (p : Nat → Bool) {i j : Nat} (h : i ≤ j) : (ls p i).length ≤ (ls p j).length := by
  induction j with
  | zero => rw [show i = 0 by omega]; exact Nat.le_refl _
  | succ j ih =>
    by_cases e : i = j + 1
    · rw [e]; exact Nat.le_refl _
    · refine Nat.le_trans (ih (by omega)) ?_
      rw [ls_s]
      split
      · rw [List.length_append]; omega
      · exact Nat.le_refl _
theorem ls_at {p : Nat → Bool} {j : Nat} (hp : p j = true) : ∀ N, j < N → (ls p N)[(ls p j).length]? = some j := by
  intro N
  induction N with
  | zero => intro h; omega
  | succ N ih =>
    intro h
    rw [ls_s]
    by_cases e : j = N
    · subst e
      rw [if_pos hp, List.getElem?_append_right (Nat.le_refl _), Nat.sub_self]
      rfl
    · have h1 := ih (by omega)
      split
      · have h2 : (ls p j).length < (ls p N).length := (List.getElem?_eq_some_iff.mp h1).1
        rw [List.getElem?_append_left h2]
        exact h1
      · exact h1
theorem ls_ex {p : Nat → Bool} {w : Nat} : ∀ N, w < (ls p N).length → ∃ j, j < N ∧ p j = true ∧ (ls p j).length = w := by
  intro N
  induction N with
  | zero => intro h; exact absurd h (by show ¬ w < 0; omega)
  | succ N ih =>
    intro h
    by_cases h1 : w < (ls p N).length
    · obtain ⟨j, a, b, c⟩ := ih h1
      exact ⟨j, by omega, b, c⟩
    · rw [ls_s] at h
      by_cases hp : p N = true
      · rw [if_pos hp, List.length_append] at h
        have : [N].length = 1 := rfl
        exact ⟨N, by omega, hp, by omega⟩
      · rw [if_neg hp] at h; exact absurd h h1
def g6 (S : Nat → Nat → Nat) (i : Nat) : Bool := (decide (i / 24 < S 0 0) && decide (i / 4 % 6 < S 0 0)) && (!decide (i / 24 = i / 4 % 6) && al S (i / 24) (i / 4 % 6) (i % 4))
def g7 (S : Nat → Nat → Nat) (k : Nat) : Bool := !decide (k / 4 / S 0 0 = k / 4 % S 0 0) && al S (k / 4 / S 0 0) (k / 4 % S 0 0) (k % 4)
def phi (n k : Nat) : Nat := ((k / 4 / n) * 6 + k / 4 % n) * 4 + k % 4
theorem phi_all : ∀ n, n < 7 → (List.range (n * n * 4)).map (phi n) = (List.range 144).filter (fun i => decide (i / 24 < n) && decide (i / 4 % 6 < n)) := by decide +kernel
theorem k_ab {n k : Nat} (hn : n ≤ 6) (hk : k < n * n * 4) : 0 < n ∧ k / 4 / n < n ∧ k / 4 % n < n := by
  have h0 : 0 < n := by
    rcases Nat.eq_zero_or_pos n with e | e
    · subst e; omega
    · exact e
  exact ⟨h0, Nat.div_lt_of_lt_mul (by omega), Nat.mod_lt _ h0⟩
theorem g67 {S : Nat → Nat → Nat} (hn : S 0 0 ≤ 6) : ls (g6 S) 144 = (ls (g7 S) (S 0 0 * S 0 0 * 4)).map (phi (S 0 0)) := by
  unfold ls
  have e1 : (List.range 144).filter (g6 S) = ((List.range 144).filter (fun i => decide (i / 24 < S 0 0) && decide (i / 4 % 6 < S 0 0))).filter (fun i => !decide (i / 24 = i / 4 % 6) && al S (i / 24) (i / 4 % 6) (i % 4)) := by
    rw [List.filter_filter]
    apply List.filter_congr
    intro i _
    unfold g6
    rw [Bool.and_comm]
  rw [e1, ← phi_all _ (by omega), List.filter_map]
  congr 1
  apply List.filter_congr
  intro k hk
  have hk2 := List.mem_range.mp hk
  obtain ⟨h0, ha, hb⟩ := k_ab hn hk2
  obtain ⟨q1, q2, q3⟩ := tq_a (a := k / 4 / S 0 0) (b := k / 4 % S 0 0) (t := k % 4) (by omega) (by omega) (by omega)
  show (!decide (phi (S 0 0) k / 24 = phi (S 0 0) k / 4 % 6) && al S (phi (S 0 0) k / 24) (phi (S 0 0) k / 4 % 6) (phi (S 0 0) k % 4)) = g7 S k
  unfold phi g7
  rw [q1, q2, q3]
/-- the next draw -/
def nd (D : Nat) : Nat := (D * 1103515245 + 12345) &&& 2147483647
theorem nd_lt (D : Nat) : nd D < 2147483648 := Nat.lt_of_le_of_lt Nat.and_le_right (by decide)
theorem l_and (a b : Nat) : lN a &&& lN b = lN (a &&& b) := by
  apply Int64.toBitVec_inj.1
  show BitVec.ofNat 64 a &&& BitVec.ofNat 64 b = BitVec.ofNat 64 (a &&& b)
  apply BitVec.eq_of_getLsbD_eq
  intro i hi
  simp [hi]
theorem al_draw {S : Nat → Nat → Nat} {k a b t : Nat} : al (upS S 0 2 k) a b t = al S a b t := by
  unfold al
  rw [upS_row (by decide : (2 : Nat) ≠ 0), upS_row (by decide : (4 : Nat) ≠ 0), upS_row (by decide : (3 : Nat) ≠ 0)]
section LE
variable {d : Nat} {Q : Option Value → ex_H → Prop} {lx : Nat} {xs : Nat → Int32} {M M1 : Nat → Nat → Int32} {x y z u : Int32} {S : Nat → Nat → Nat} {a b c i j k n s t w q nn : Nat} {o3 o4 o5 : Option Value}
theorem l_X3_listChoices (hW : WF S) (hC : RepC M 2 S) (hi : i < 144) (hc : c ≤ i) : Go (d + 2) 75 4 [some (.ref 2), some (.int (nI c)), some (.int (nI i))] [] (HP lx xs M) Q = if g6 S i = true then Go (d + 2) 75 4 [some (.ref 2), some (.int (nI (c + 1))), some (.int (nI (i + 1)))] [] (HP lx xs (up M 13 c (nI i))) Q else Go (d + 2) 75 4 [some (.ref 2), some (.int (nI c)), some (.int (nI (i + 1)))] [] (HP lx xs M) Q := by
  have w1 := hW.1
  have c1 := hC.1
  have it : (isr (nI (i / 24)) (S 0 0) && (isr (nI (i / 4 % 6)) (S 0 0) && (isr (nI (i % 4)) 4 && !decide (nI (i / 24) = nI (i / 4 % 6))))) = ((decide (i / 24 < S 0 0) && decide (i / 4 % 6 < S 0 0)) && !decide (i / 24 = i / 4 % 6)) := by
    rw [isr_nI (by omega), isr_nI (by omega), isr_nI (by omega), decide_eq_true (by omega : i % 4 < 4), Bool.true_and, ← Bool.and_assoc]
    congr 2
    exact decide_eq_decide.mpr (by rw [i_eq (by omega) (by omega)])
  rw [s_75_4]
  by_cases h : ((decide (i / 24 < S 0 0) && decide (i / 4 % 6 < S 0 0)) && !decide (i / 24 = i / 4 % 6)) = true
  · have h' := h
    simp only [Bool.and_eq_true, decide_eq_true_eq, Bool.not_eq_true', decide_eq_false_iff_not] at h'
    obtain ⟨⟨la, lb⟩, lab⟩ := h'
    have al' : ∀ d Q, Go (d + 1) 67 0 [some (.ref 2), some (.ref 5), some (.int (nI i)), none, none, none] [] (HP lx xs M) Q = Q (some (.int (bI (al S (i / 24) (i / 4 % 6) (i % 4))))) (HP lx xs M) := fun d Q => by
      have := c_X3_allows (d := d) (Q := Q) (lx := lx) (xs := xs) hC hW la lb (by omega : i % 4 < 4)
      rw [show (i / 24 * 6 + i / 4 % 6) * 4 + i % 4 = i by omega] at this
      exact this
    by_cases hal : al S (i / 24) (i / 4 % 6) (i % 4) = true
    · rw [if_pos (by unfold g6; rw [← Bool.and_assoc, h, hal]; rfl)]
      simp (disch := omega) only [s_75_5, s_75_8, s_75_11, s_75_12, s_75_13, s_75_16, s_75_17, s_75_20, s_75_21, s_75_24, s_75_27, s_75_30, s_75_31, s_75_32, s_75_35, s_75_36, s_75_39, s_75_42, s_75_43, s_75_46, s_75_47, s_75_50, s_75_51, s_75_52, s_75_55, ↓reduceIte, i_lt, hi, c_X6_teacherOf, c_X6_pupilOf, c_X6_thingOf, c_X3_isTeaching w1 c1, it, h, ap_some, bI_0, Bool.true_eq_false, al', hal, i_in, i_cl, true_and, i_add]
    · rw [Bool.not_eq_true] at hal
      rw [if_neg (by unfold g6; rw [hal]; simp)]
      simp (disch := omega) only [s_75_5, s_75_8, s_75_11, s_75_12, s_75_13, s_75_16, s_75_17, s_75_20, s_75_21, s_75_24, s_75_27, s_75_30, s_75_31, s_75_32, s_75_35, s_75_36, s_75_39, s_75_42, s_75_43, s_75_46, s_75_47, s_75_50, s_75_51, s_75_52, s_75_55, ↓reduceIte, i_lt, hi, c_X6_teacherOf, c_X6_pupilOf, c_X6_thingOf, c_X3_isTeaching w1 c1, it, h, ap_some, bI_0, Bool.true_eq_false, al', hal, i_add]
  · rw [if_neg (by unfold g6; rw [← Bool.and_assoc, Bool.not_eq_true _ |>.mp h]; simp)]
    rw [Bool.not_eq_true] at h
    simp (disch := omega) only [s_75_5, s_75_8, s_75_11, s_75_12, s_75_13, s_75_16, s_75_17, s_75_20, s_75_21, s_75_24, s_75_27, s_75_30, s_75_31, s_75_32, s_75_35, s_75_36, s_75_39, s_75_42, s_75_43, s_75_46, s_75_47, s_75_50, s_75_51, s_75_52, s_75_55, ↓reduceIte, i_lt, hi, c_X6_teacherOf, c_X6_pupilOf, c_X6_thingOf, c_X3_isTeaching w1 c1, it, h, ap_some, bI_0, i_add]
theorem ll_X3_listChoices (hW : WF S) : ∀ m i M, i + m = 144 → RepC M 2 S → (∀ j v, (ls (g6 S) i)[j]? = some v → M 13 j = nI v) → ∃ M1, (∀ c, c ≠ 13 → M1 c = M c) ∧ (∀ j v, (ls (g6 S) 144)[j]? = some v → M1 13 j = nI v) ∧ ∀ d Q, Go (d + 2) 75 4 [some (.ref 2), some (.int (nI (ls (g6 S) i).length)), some (.int (nI i))] [] (HP lx xs M) Q = Q (some (.int (nI (ls (g6 S) 144).length))) (HP lx xs M1) := by
  intro m
  induction m with
  | zero =>
    intro i M hi hC h13
    have e : i = 144 := by omega
    subst e
    refine ⟨M, fun _ _ => rfl, h13, fun d Q => ?_⟩
    rw [s_75_4]
    simp (disch := omega) only [s_75_5, s_75_8, s_75_58, s_75_59, ↓reduceIte, i_lt, Nat.lt_irrefl]
  | succ m ih =>
    intro i M hi hC h13
    have hle := ls_le (g6 S) i
    by_cases h : g6 S i = true
    · obtain ⟨M1, r1, r2, r3⟩ := ih (i + 1) (up M 13 (ls (g6 S) i).length (nI i)) (by omega) (RepC_eq hC fun c q1 q2 => up_ne _ _ _ (by omega)) (fun j v hj => by
        rw [ls_s, if_pos h] at hj
        by_cases e : j < (ls (g6 S) i).length
        · rw [List.getElem?_append_left e] at hj
          rw [up_off (by omega)]
          exact h13 j v hj
        · rw [List.getElem?_append_right (by omega)] at hj
          have e2 : j = (ls (g6 S) i).length := by
            have := (List.getElem?_eq_some_iff.mp hj).1
            have e3 : [i].length = 1 := rfl
            omega
          rw [e2, Nat.sub_self] at hj
          cases hj
          rw [e2, up_at])
      refine ⟨M1, fun c hc => (r1 c hc).trans (up_ne _ _ _ hc), r2, fun d Q => ?_⟩
      have r4 := r3 d Q
      rw [ls_s, if_pos h, List.length_append] at r4
      rw [l_X3_listChoices hW hC (by omega) hle, if_pos h]
      exact r4
    · obtain ⟨M1, r1, r2, r3⟩ := ih (i + 1) M (by omega) hC (fun j v hj => by
        rw [ls_s, if_neg h] at hj
        exact h13 j v hj)
      refine ⟨M1, r1, r2, fun d Q => ?_⟩
      have r4 := r3 d Q
      rw [ls_s, if_neg h] at r4
      rw [l_X3_listChoices hW hC (by omega) hle, if_neg h]
      exact r4
theorem l_X7_lesson (hW : WF S) (hC : RepM M S) (hk : k < S 0 0 * S 0 0 * 4) (hc : c ≤ k) : Go (d + 2) 157 4 [some (.ref 53), some (.int x), some (.int (nI c)), some (.int (nI k)), o4, o5] [] (HP lx xs M) Q = if g7 S k = true then (if nI c = x then Go (d + 2) 157 65 [some (.ref 53), some (.int x), some (.int (nI c)), some (.int (nI k)), some (.int (nI (k / 4 / S 0 0))), some (.int (nI (k / 4 % S 0 0)))] [] (HP lx xs M) Q else Go (d + 2) 157 4 [some (.ref 53), some (.int x), some (.int (nI (c + 1))), some (.int (nI (k + 1))), some (.int (nI (k / 4 / S 0 0))), some (.int (nI (k / 4 % S 0 0)))] [] (HP lx xs M) Q) else Go (d + 2) 157 4 [some (.ref 53), some (.int x), some (.int (nI c)), some (.int (nI (k + 1))), some (.int (nI (k / 4 / S 0 0))), some (.int (nI (k / 4 % S 0 0)))] [] (HP lx xs M) Q := by
  have w1 := hW.1
  have c1 := hC.1
  obtain ⟨h0, ha, hb⟩ := k_ab w1 hk
  have hN : S 0 0 * S 0 0 * 4 ≤ 144 := by
    have := Nat.mul_le_mul w1 w1
    omega
  have n0 : ¬ nI (S 0 0) = 0 := by rw [i_e0 (by omega)]; omega
  have n4 : ¬ nI 4 = 0 := by decide
  have d1 : nI k / nI 4 = nI (k / 4) := i_div (by omega) (by omega) (by omega)
  have d2 : nI (k / 4) / nI (S 0 0) = nI (k / 4 / S 0 0) := i_div (by omega) h0 (by omega)
  have d3 : nI (k / 4) - nI (k / 4 / S 0 0) * nI (S 0 0) = nI (k / 4 % S 0 0) := by rw [← d2]; exact i_rem (by omega) h0 (by omega)
  have d4 : nI k - nI (k / 4) * nI 4 = nI (k % 4) := by rw [← d1]; exact i_rem (by omega) (by omega) (by omega)
  rw [s_157_4]
  generalize hga : k / 4 / S 0 0 = a at *
  generalize hgb : k / 4 % S 0 0 = b at *
  by_cases hab : a = b
  · rw [if_neg (by unfold g7; rw [hga, hgb, decide_eq_true hab]; simp)]
    have hab2 : (nI a = nI b) = True := eq_true (by rw [hab])
    simp (disch := omega) only [s_157_5, s_157_6, s_157_9, s_157_10, s_157_13, s_157_14, s_157_15, s_157_16, s_157_19, s_157_20, s_157_21, s_157_22, s_157_23, s_157_26, s_157_27, s_157_29, s_157_30, s_157_31, s_157_32, s_157_33, s_157_36, s_157_37, s_157_39, s_157_41, s_157_43, s_157_46, s_157_47, s_157_49, s_157_51, s_157_52, s_157_53, s_157_54, s_157_57, s_157_60, s_157_61, s_157_62, s_157_65, s_157_66, s_157_68, s_157_70, s_157_71, s_157_72, s_157_73, s_157_76, s_157_77, s_157_78, s_157_81, s_157_84, ↓reduceIte, c1, ← i_mul, n0, n4, not_false_eq_true, true_and, d1, d2, d3, hab2]
    simp (disch := omega) only [s_157_5, s_157_6, s_157_9, s_157_10, s_157_13, s_157_14, s_157_15, s_157_16, s_157_19, s_157_20, s_157_21, s_157_22, s_157_23, s_157_26, s_157_27, s_157_29, s_157_30, s_157_31, s_157_32, s_157_33, s_157_36, s_157_37, s_157_39, s_157_41, s_157_43, s_157_46, s_157_47, s_157_49, s_157_51, s_157_52, s_157_53, s_157_54, s_157_57, s_157_60, s_157_61, s_157_62, s_157_65, s_157_66, s_157_68, s_157_70, s_157_71, s_157_72, s_157_73, s_157_76, s_157_77, s_157_78, s_157_81, s_157_84, ↓reduceIte, i_mul, i_lt, hk, i_add]
  · have hab2 : (nI a = nI b) = False := by rw [i_eq (by omega) (by omega)]; exact eq_false hab
    by_cases hal : al S a b (k % 4) = true
    · rw [if_pos (by unfold g7; rw [hga, hgb, decide_eq_false hab, hal]; rfl)]
      simp (disch := omega) only [s_157_5, s_157_6, s_157_9, s_157_10, s_157_13, s_157_14, s_157_15, s_157_16, s_157_19, s_157_20, s_157_21, s_157_22, s_157_23, s_157_26, s_157_27, s_157_29, s_157_30, s_157_31, s_157_32, s_157_33, s_157_36, s_157_37, s_157_39, s_157_41, s_157_43, s_157_46, s_157_47, s_157_49, s_157_51, s_157_52, s_157_53, s_157_54, s_157_57, s_157_60, s_157_61, s_157_62, s_157_65, s_157_66, s_157_68, s_157_70, s_157_71, s_157_72, s_157_73, s_157_76, s_157_77, s_157_78, s_157_81, s_157_84, ↓reduceIte, c1, ← i_mul, n0, n4, not_false_eq_true, true_and, d1, d2, d3, d4, hab2, c_X7_mayBe hC hW (by omega : a < 6) (by omega : b < 6) (by omega : k % 4 < 4), hal, ap_some, bI_0, Bool.true_eq_false]
      simp (disch := omega) only [s_157_5, s_157_6, s_157_9, s_157_10, s_157_13, s_157_14, s_157_15, s_157_16, s_157_19, s_157_20, s_157_21, s_157_22, s_157_23, s_157_26, s_157_27, s_157_29, s_157_30, s_157_31, s_157_32, s_157_33, s_157_36, s_157_37, s_157_39, s_157_41, s_157_43, s_157_46, s_157_47, s_157_49, s_157_51, s_157_52, s_157_53, s_157_54, s_157_57, s_157_60, s_157_61, s_157_62, s_157_65, s_157_66, s_157_68, s_157_70, s_157_71, s_157_72, s_157_73, s_157_76, s_157_77, s_157_78, s_157_81, s_157_84, ↓reduceIte, i_mul, i_lt, hk, i_add]
    · rw [Bool.not_eq_true] at hal
      rw [if_neg (by unfold g7; rw [hga, hgb, hal]; simp)]
      simp (disch := omega) only [s_157_5, s_157_6, s_157_9, s_157_10, s_157_13, s_157_14, s_157_15, s_157_16, s_157_19, s_157_20, s_157_21, s_157_22, s_157_23, s_157_26, s_157_27, s_157_29, s_157_30, s_157_31, s_157_32, s_157_33, s_157_36, s_157_37, s_157_39, s_157_41, s_157_43, s_157_46, s_157_47, s_157_49, s_157_51, s_157_52, s_157_53, s_157_54, s_157_57, s_157_60, s_157_61, s_157_62, s_157_65, s_157_66, s_157_68, s_157_70, s_157_71, s_157_72, s_157_73, s_157_76, s_157_77, s_157_78, s_157_81, s_157_84, ↓reduceIte, c1, ← i_mul, n0, n4, not_false_eq_true, true_and, d1, d2, d3, d4, hab2, c_X7_mayBe hC hW (by omega : a < 6) (by omega : b < 6) (by omega : k % 4 < 4), hal, ap_some, bI_0]
      simp (disch := omega) only [s_157_5, s_157_6, s_157_9, s_157_10, s_157_13, s_157_14, s_157_15, s_157_16, s_157_19, s_157_20, s_157_21, s_157_22, s_157_23, s_157_26, s_157_27, s_157_29, s_157_30, s_157_31, s_157_32, s_157_33, s_157_36, s_157_37, s_157_39, s_157_41, s_157_43, s_157_46, s_157_47, s_157_49, s_157_51, s_157_52, s_157_53, s_157_54, s_157_57, s_157_60, s_157_61, s_157_62, s_157_65, s_157_66, s_157_68, s_157_70, s_157_71, s_157_72, s_157_73, s_157_76, s_157_77, s_157_78, s_157_81, s_157_84, ↓reduceIte, i_mul, i_lt, hk, i_add]
end LE
