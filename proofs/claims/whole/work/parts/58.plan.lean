/-! a teaching of a plan's text -/
/-- from place q on, of c children: where it ends (or can't go on), and teacher, pupil, thing -/
def rtT (T : Nat → Nat) (n c q : Nat) : Nat × Option (Nat × Nat × Nat) :=
  if q < n ∧ 48 ≤ T q ∧ T q < 48 + c then
    if nx T n q < n ∧ T (nx T n q) = 62 then
      if (nx T n (nx T n q) < n ∧ 48 ≤ T (nx T n (nx T n q)) ∧ T (nx T n (nx T n q)) < 48 + c) ∧ T (nx T n (nx T n q)) ≠ T q then
        if nx T n (nx T n (nx T n q)) < n ∧ 97 ≤ T (nx T n (nx T n (nx T n q))) ∧ T (nx T n (nx T n (nx T n q))) < 97 + 4 then
          (nx T n (nx T n (nx T n (nx T n q))), some (T q - 48, T (nx T n (nx T n q)) - 48, T (nx T n (nx T n (nx T n q))) - 97))
        else (nx T n (nx T n (nx T n q)), none)
      else (nx T n (nx T n q), none)
    else (nx T n q, none)
  else (q, none)
def rtV (v : Option (Nat × Nat × Nat)) : Int32 := match v with
  | none => -4
  | some (a, b, t) => nI ((a * 6 + b) * 4 + t)
theorem x48 : ((-1 : Int32) - nI 48).toInt < 0 := by decide
theorem x97 : ((-1 : Int32) - nI 97).toInt < 0 := by decide
section PL
variable {d : Nat} {Q : Option Value → ex_H → Prop} {lx : Nat} {xs : Nat → Int32} {M M1 : Nat → Nat → Int32} {T : Nat → Nat} {n p c q at0 : Nat}
theorem rt_le (hq : q ≤ n) : (rtT T n c q).1 ≤ n ∧ sk T n (rtT T n c q).1 = if (q < n ∧ 48 ≤ T q ∧ T q < 48 + c) then (rtT T n c q).1 else sk T n q := by
  unfold rtT
  by_cases h1 : q < n ∧ 48 ≤ T q ∧ T q < 48 + c
  · have l1 := nx_le (T := T) h1.1
    have i1 := nx_idem (T := T) h1.1
    rw [if_pos h1, if_pos h1]
    by_cases h2 : nx T n q < n ∧ T (nx T n q) = 62
    · have l2 := nx_le (T := T) h2.1
      have i2 := nx_idem (T := T) h2.1
      rw [if_pos h2]
      by_cases h3 : (nx T n (nx T n q) < n ∧ 48 ≤ T (nx T n (nx T n q)) ∧ T (nx T n (nx T n q)) < 48 + c) ∧ T (nx T n (nx T n q)) ≠ T q
      · have l3 := nx_le (T := T) h3.1.1
        have i3 := nx_idem (T := T) h3.1.1
        rw [if_pos h3]
        by_cases h4 : nx T n (nx T n (nx T n q)) < n ∧ 97 ≤ T (nx T n (nx T n (nx T n q))) ∧ T (nx T n (nx T n (nx T n q))) < 97 + 4
        · have l4 := nx_le (T := T) h4.1
          have i4 := nx_idem (T := T) h4.1
          rw [if_pos h4]
          exact ⟨l4, i4⟩
        · rw [if_neg h4]; exact ⟨l3, i3⟩
      · rw [if_neg h3]; exact ⟨l2, i2⟩
    · rw [if_neg h2]; exact ⟨l1, i1⟩
  · rw [if_neg h1, if_neg h1]; exact ⟨hq, rfl⟩
theorem rt_ok {a b t : Nat} (hc : c ≤ 6) (h : (rtT T n c q).2 = some (a, b, t)) : a < c ∧ b < c ∧ a ≠ b ∧ t < 4 := by
  unfold rtT at h
  by_cases h1 : q < n ∧ 48 ≤ T q ∧ T q < 48 + c
  · rw [if_pos h1] at h
    by_cases h2 : nx T n q < n ∧ T (nx T n q) = 62
    · rw [if_pos h2] at h
      by_cases h3 : (nx T n (nx T n q) < n ∧ 48 ≤ T (nx T n (nx T n q)) ∧ T (nx T n (nx T n q)) < 48 + c) ∧ T (nx T n (nx T n q)) ≠ T q
      · rw [if_pos h3] at h
        by_cases h4 : nx T n (nx T n (nx T n q)) < n ∧ 97 ≤ T (nx T n (nx T n (nx T n q))) ∧ T (nx T n (nx T n (nx T n q))) < 97 + 4
        · rw [if_pos h4] at h
          cases h
          omega
        · rw [if_neg h4] at h; cases h
      · rw [if_neg h3] at h; cases h
    · rw [if_neg h2] at h; cases h
  · rw [if_neg h1] at h; cases h
theorem c_X1_readTeaching (hT : TPC M n T) (h5 : M 28 5 = nI q) (hq : q ≤ n) (hc : c ≤ 6) : Go (d + 3) 91 0 [some (.ref 28), some (.int (nI c)), none, none, none] [] (HP lx xs M) Q = Q (some (.int (rtV (rtT T n c q).2))) (HP lx xs (up M 28 5 (nI (rtT T n c q).1))) := by
  have t3 := hT.2.2.1
  have t4 := hT.2.2.2
  unfold rtT
  have dg : ∀ q, isr (chr T n q - nI 48) c = decide (q < n ∧ 48 ≤ T q ∧ T q < 48 + c) := fun q => chr_dig t4 (by decide) x48
  have out : ∀ x : Int32, isr x c = false → (x < 0) = True ∨ ((x < 0) = False ∧ (x < nI c) = False) := by
    intro x hx
    have hx := of_decide_eq_false hx
    by_cases h : x.toInt < 0
    · exact Or.inl (by rw [x_l0]; exact eq_true h)
    · exact Or.inr ⟨by rw [x_l0]; exact eq_false h, by rw [x_ln x (by omega)]; exact eq_false (by omega)⟩
  by_cases h1 : q < n ∧ 48 ≤ T q ∧ T q < 48 + c
  · have l1 := nx_le (T := T) h1.1
    have b1 := t4 q h1.1
    have s1 := fun d Q => c_X1_sign (d := d) (Q := Q) (lx := lx) (xs := xs) hT h5 hq
    have p1 := fun d Q => c_X1_step (d := d) (Q := Q) (lx := lx) (xs := xs) hT h5 h1.1
    have hT1 : TPC (up M 28 5 (nI (nx T n q))) n T := TPC_up hT
    have k1 := fun d Q => c_X1_takes (d := d) (Q := Q) (lx := lx) (xs := xs) (c := 62) hT1 up_at l1 (by decide)
    simp only [up_up] at k1
    have v1 : chr T n q - nI 48 = nI (T q - 48) := chr_val h1.1 h1.2.1
    have lc : T q - 48 < c := by omega
    rw [if_pos h1]
    by_cases h2 : nx T n q < n ∧ T (nx T n q) = 62
    · have l2 := nx_le (T := T) h2.1
      simp only [h2, and_self, ↓reduceIte] at k1
      have hT2 : TPC (up M 28 5 (nI (nx T n (nx T n q)))) n T := TPC_up hT
      have s2 := fun d Q => c_X1_sign (d := d) (Q := Q) (lx := lx) (xs := xs) hT2 up_at l2
      rw [if_pos h2]
      generalize hq2 : nx T n (nx T n q) = q2 at *
      by_cases h3 : (q2 < n ∧ 48 ≤ T q2 ∧ T q2 < 48 + c) ∧ T q2 ≠ T q
      · have l3 := nx_le (T := T) h3.1.1
        have b2 := t4 q2 h3.1.1
        have p2 := fun d Q => c_X1_step (d := d) (Q := Q) (lx := lx) (xs := xs) hT2 up_at h3.1.1
        simp only [up_up] at p2
        have hT3 : TPC (up M 28 5 (nI (nx T n q2))) n T := TPC_up hT
        have s3 := fun d Q => c_X1_sign (d := d) (Q := Q) (lx := lx) (xs := xs) hT3 up_at l3
        have v2 : chr T n q2 - nI 48 = nI (T q2 - 48) := chr_val h3.1.1 h3.1.2.1
        have ne : (nI (T q2 - 48) = nI (T q - 48)) = False := by rw [i_eq (by omega) (by omega)]; exact eq_false (by omega)
        have lc2 : T q2 - 48 < c := by omega
        rw [if_pos h3]
        generalize hq3 : nx T n q2 = q3 at *
        have dg3 : isr (chr T n q3 - nI 97) 4 = decide (q3 < n ∧ 97 ≤ T q3 ∧ T q3 < 97 + 4) := chr_dig t4 (by decide) x97
        by_cases h4 : q3 < n ∧ 97 ≤ T q3 ∧ T q3 < 97 + 4
        · have p3 := fun d Q => c_X1_step (d := d) (Q := Q) (lx := lx) (xs := xs) hT3 up_at h4.1
          simp only [up_up] at p3
          rw [decide_eq_true h4] at dg3
          have v3 : chr T n q3 - nI 97 = nI (T q3 - 97) := chr_val h4.1 h4.2.1
          rw [v3] at dg3
          rw [if_pos h4]
          simp (disch := omega) only [s_91_0, s_91_1, s_91_4, s_91_6, s_91_7, s_91_8, s_91_9, s_91_12, s_91_13, s_91_14, s_91_17, s_91_19, s_91_20, s_91_21, s_91_24, s_91_25, s_91_27, s_91_30, s_91_33, s_91_35, s_91_36, s_91_37, s_91_40, s_91_42, s_91_43, s_91_44, s_91_45, s_91_48, s_91_49, s_91_50, s_91_53, s_91_54, s_91_55, s_91_58, s_91_60, s_91_61, s_91_62, s_91_65, s_91_66, s_91_69, s_91_71, s_91_72, s_91_74, s_91_76, s_91_79, s_91_82, s_91_84, s_91_85, s_91_86, s_91_89, s_91_90, s_91_91, s_91_93, s_91_96, ↓reduceIte, s1, ap_some, ap_none, v1, i_l0, i_lt, lc, p1, k1, n1_0, s2, v2, lc2, ne, p2, s3, v3, c_X6_isThing, dg3, bI_0, Bool.true_eq_false, p3, c_X6_teaching, rtV]
        · rw [decide_eq_false h4] at dg3
          rw [if_neg h4]
          simp (disch := omega) only [s_91_0, s_91_1, s_91_4, s_91_6, s_91_7, s_91_8, s_91_9, s_91_12, s_91_13, s_91_14, s_91_17, s_91_19, s_91_20, s_91_21, s_91_24, s_91_25, s_91_27, s_91_30, s_91_33, s_91_35, s_91_36, s_91_37, s_91_40, s_91_42, s_91_43, s_91_44, s_91_45, s_91_48, s_91_49, s_91_50, s_91_53, s_91_54, s_91_55, s_91_58, s_91_60, s_91_61, s_91_62, s_91_65, s_91_66, s_91_69, s_91_71, s_91_72, s_91_74, s_91_76, s_91_79, s_91_82, s_91_84, s_91_85, s_91_86, s_91_89, s_91_90, s_91_91, s_91_93, s_91_96, ↓reduceIte, s1, ap_some, ap_none, v1, i_l0, i_lt, lc, p1, k1, n1_0, s2, v2, lc2, ne, p2, s3, c_X6_isThing, dg3, bI_0, rtV]
      · rw [if_neg h3]
        by_cases h31 : q2 < n ∧ 48 ≤ T q2 ∧ T q2 < 48 + c
        · have e2 : T q2 = T q := Classical.byContradiction fun hh => h3 ⟨h31, hh⟩
          have b2 := t4 q2 h31.1
          have v2 : chr T n q2 - nI 48 = nI (T q2 - 48) := chr_val h31.1 h31.2.1
          have ne : (nI (T q2 - 48) = nI (T q - 48)) = True := eq_true (by rw [e2])
          have lc2 : T q2 - 48 < c := by omega
          simp (disch := omega) only [s_91_0, s_91_1, s_91_4, s_91_6, s_91_7, s_91_8, s_91_9, s_91_12, s_91_13, s_91_14, s_91_17, s_91_19, s_91_20, s_91_21, s_91_24, s_91_25, s_91_27, s_91_30, s_91_33, s_91_35, s_91_36, s_91_37, s_91_40, s_91_42, s_91_43, s_91_44, s_91_45, s_91_48, s_91_49, s_91_50, s_91_53, s_91_54, s_91_55, s_91_58, s_91_60, s_91_61, s_91_62, s_91_65, s_91_66, s_91_69, s_91_71, s_91_72, s_91_74, s_91_76, s_91_79, s_91_82, s_91_84, s_91_85, s_91_86, s_91_89, s_91_90, s_91_91, s_91_93, s_91_96, ↓reduceIte, s1, ap_some, ap_none, v1, i_l0, i_lt, lc, p1, k1, n1_0, s2, v2, lc2, ne, rtV]
        · rcases out (chr T n q2 - nI 48) (by rw [dg]; exact decide_eq_false h31) with o1 | ⟨o1, o2⟩
          · simp (disch := omega) only [s_91_0, s_91_1, s_91_4, s_91_6, s_91_7, s_91_8, s_91_9, s_91_12, s_91_13, s_91_14, s_91_17, s_91_19, s_91_20, s_91_21, s_91_24, s_91_25, s_91_27, s_91_30, s_91_33, s_91_35, s_91_36, s_91_37, s_91_40, s_91_42, s_91_43, s_91_44, s_91_45, s_91_48, s_91_49, s_91_50, s_91_53, s_91_54, s_91_55, s_91_58, s_91_60, s_91_61, s_91_62, s_91_65, s_91_66, s_91_69, s_91_71, s_91_72, s_91_74, s_91_76, s_91_79, s_91_82, s_91_84, s_91_85, s_91_86, s_91_89, s_91_90, s_91_91, s_91_93, s_91_96, ↓reduceIte, s1, ap_some, ap_none, v1, i_l0, i_lt, lc, p1, k1, n1_0, s2, o1, rtV]
          · simp (disch := omega) only [s_91_0, s_91_1, s_91_4, s_91_6, s_91_7, s_91_8, s_91_9, s_91_12, s_91_13, s_91_14, s_91_17, s_91_19, s_91_20, s_91_21, s_91_24, s_91_25, s_91_27, s_91_30, s_91_33, s_91_35, s_91_36, s_91_37, s_91_40, s_91_42, s_91_43, s_91_44, s_91_45, s_91_48, s_91_49, s_91_50, s_91_53, s_91_54, s_91_55, s_91_58, s_91_60, s_91_61, s_91_62, s_91_65, s_91_66, s_91_69, s_91_71, s_91_72, s_91_74, s_91_76, s_91_79, s_91_82, s_91_84, s_91_85, s_91_86, s_91_89, s_91_90, s_91_91, s_91_93, s_91_96, ↓reduceIte, s1, ap_some, ap_none, v1, i_l0, i_lt, lc, p1, k1, n1_0, s2, o1, o2, rtV]
    · simp only [h2, ↓reduceIte] at k1
      rw [if_neg h2]
      simp (disch := omega) only [s_91_0, s_91_1, s_91_4, s_91_6, s_91_7, s_91_8, s_91_9, s_91_12, s_91_13, s_91_14, s_91_17, s_91_19, s_91_20, s_91_21, s_91_24, s_91_25, s_91_27, s_91_30, s_91_33, s_91_35, s_91_36, s_91_37, s_91_40, s_91_42, s_91_43, s_91_44, s_91_45, s_91_48, s_91_49, s_91_50, s_91_53, s_91_54, s_91_55, s_91_58, s_91_60, s_91_61, s_91_62, s_91_65, s_91_66, s_91_69, s_91_71, s_91_72, s_91_74, s_91_76, s_91_79, s_91_82, s_91_84, s_91_85, s_91_86, s_91_89, s_91_90, s_91_91, s_91_93, s_91_96, ↓reduceIte, s1, ap_some, ap_none, v1, i_l0, i_lt, lc, p1, k1, n0_0, rtV]
  · rw [if_neg h1, up_same h5]
    have s1 := fun d Q => c_X1_sign (d := d) (Q := Q) (lx := lx) (xs := xs) hT h5 hq
    rcases out (chr T n q - nI 48) (by rw [dg]; exact decide_eq_false h1) with o1 | ⟨o1, o2⟩
    · simp (disch := omega) only [s_91_0, s_91_1, s_91_4, s_91_6, s_91_7, s_91_8, s_91_9, s_91_12, s_91_13, s_91_14, s_91_17, s_91_19, s_91_20, s_91_21, s_91_24, s_91_25, s_91_27, s_91_30, s_91_33, s_91_35, s_91_36, s_91_37, s_91_40, s_91_42, s_91_43, s_91_44, s_91_45, s_91_48, s_91_49, s_91_50, s_91_53, s_91_54, s_91_55, s_91_58, s_91_60, s_91_61, s_91_62, s_91_65, s_91_66, s_91_69, s_91_71, s_91_72, s_91_74, s_91_76, s_91_79, s_91_82, s_91_84, s_91_85, s_91_86, s_91_89, s_91_90, s_91_91, s_91_93, s_91_96, ↓reduceIte, s1, ap_some, o1, rtV]
    · simp (disch := omega) only [s_91_0, s_91_1, s_91_4, s_91_6, s_91_7, s_91_8, s_91_9, s_91_12, s_91_13, s_91_14, s_91_17, s_91_19, s_91_20, s_91_21, s_91_24, s_91_25, s_91_27, s_91_30, s_91_33, s_91_35, s_91_36, s_91_37, s_91_40, s_91_42, s_91_43, s_91_44, s_91_45, s_91_48, s_91_49, s_91_50, s_91_53, s_91_54, s_91_55, s_91_58, s_91_60, s_91_61, s_91_62, s_91_65, s_91_66, s_91_69, s_91_71, s_91_72, s_91_74, s_91_76, s_91_79, s_91_82, s_91_84, s_91_85, s_91_86, s_91_89, s_91_90, s_91_91, s_91_93, s_91_96, ↓reduceIte, s1, ap_some, o1, o2, rtV]
/-- what the reference's row holds behind it -/
def rdM (M : Nat → Nat → Int32) (at0 p : Nat) (v : Option (Nat × Nat × Nat)) : Nat → Nat → Int32 := match v with
  | none => up M 53 11 (nI p)
  | some (a, b, t) => up (up (up (up M 53 11 (nI p)) 60 at0 (nI a)) 60 (at0 + 1) (nI b)) 60 (at0 + 2) (nI t)
theorem c_X7_readTeaching (hT : TPM M n T) (h5 : M 53 11 = nI p) (hp : p ≤ n) (hc : c ≤ 6) (h4 : M 53 4 = nI c) (hat : at0 + 2 < 96) : ∃ p', p' ≤ n ∧ sk T n p' = (rtT T n c (sk T n p)).1 ∧ ∀ d Q, Go (d + 2) 134 0 [some (.ref 53), some (.int (nI at0)), none, none, none] [] (HP lx xs M) Q = Q (some (.int (bI (rtT T n c (sk T n p)).2.isSome))) (HP lx xs (rdM M at0 p' (rtT T n c (sk T n p)).2)) := by
  have t3 := hT.2.2.1
  have t4 := hT.2.2.2
  have hq := sk_le (T := T) hp
  have hqi := sk_idem (T := T) hp
  have s0 := fun d Q => c_X7_nextByte (d := d) (Q := Q) (lx := lx) (xs := xs) hT h5 hp
  generalize sk T n p = q at *
  have dg : ∀ q, isr (chr T n q - nI 48) c = decide (q < n ∧ 48 ≤ T q ∧ T q < 48 + c) := fun q => chr_dig t4 (by decide) x48
  have ic : ∀ x i d Q, Go (d + 1) 116 0 [some (.ref 53), some (.int x)] [] (HP lx xs (up M 53 11 (nI i))) Q = Q (some (.int (bI (isr x c)))) (HP lx xs (up M 53 11 (nI i))) := fun x i d Q => c_X7_isChild hc (by rw [up_off (by decide)]; exact h4)
  unfold rtT
  by_cases h1 : q < n ∧ 48 ≤ T q ∧ T q < 48 + c
  · have l1 := nx_le (T := T) h1.1
    have i1 := nx_idem (T := T) h1.1
    have b1 := t4 q h1.1
    have v1 : chr T n q - nI 48 = nI (T q - 48) := chr_val h1.1 h1.2.1
    have g1 : isr (nI (T q - 48)) c = true := by rw [← v1, dg]; exact decide_eq_true h1
    have s1 := fun d Q => c_X7_nextByte (d := d) (Q := Q) (lx := lx) (xs := xs) (M := up M 53 11 (nI (q + 1))) (n := n) (T := T) (p := q + 1) (TPM_up hT (by decide)) up_at h1.1
    simp only [up_up] at s1
    rw [if_pos h1]
    simp only [show sk T n (q + 1) = nx T n q from rfl] at s1
    generalize hq1 : nx T n q = q1 at *
    by_cases h2 : q1 < n ∧ T q1 = 62
    · have l2 := nx_le (T := T) h2.1
      have i2 := nx_idem (T := T) h2.1
      have s2 := fun d Q => c_X7_nextByte (d := d) (Q := Q) (lx := lx) (xs := xs) (M := up M 53 11 (nI (q1 + 1))) (n := n) (T := T) (p := q1 + 1) (TPM_up hT (by decide)) up_at h2.1
      simp only [up_up] at s2
      rw [if_pos h2]
      simp only [show sk T n (q1 + 1) = nx T n q1 from rfl] at s2
      have h2c : (chr T n q1 = nI 62) = True := by rw [chr_eq t4 (by decide)]; exact eq_true h2
      generalize hq2 : nx T n q1 = q2 at *
      by_cases h3 : (q2 < n ∧ 48 ≤ T q2 ∧ T q2 < 48 + c) ∧ T q2 ≠ T q
      · have l3 := nx_le (T := T) h3.1.1
        have i3 := nx_idem (T := T) h3.1.1
        have b2 := t4 q2 h3.1.1
        have v2 : chr T n q2 - nI 48 = nI (T q2 - 48) := chr_val h3.1.1 h3.1.2.1
        have g2 : isr (nI (T q2 - 48)) c = true := by rw [← v2, dg]; exact decide_eq_true h3.1
        have ne : (nI (T q2 - 48) = nI (T q - 48)) = False := by rw [i_eq (by omega) (by omega)]; exact eq_false (by omega)
        have s3 := fun d Q => c_X7_nextByte (d := d) (Q := Q) (lx := lx) (xs := xs) (M := up M 53 11 (nI (q2 + 1))) (n := n) (T := T) (p := q2 + 1) (TPM_up hT (by decide)) up_at h3.1.1
        simp only [up_up] at s3
        rw [if_pos h3]
        simp only [show sk T n (q2 + 1) = nx T n q2 from rfl] at s3
        generalize hq3 : nx T n q2 = q3 at *
        have dg3 : isr (chr T n q3 - nI 97) 4 = decide (q3 < n ∧ 97 ≤ T q3 ∧ T q3 < 97 + 4) := chr_dig t4 (by decide) x97
        by_cases h4 : q3 < n ∧ 97 ≤ T q3 ∧ T q3 < 97 + 4
        · rw [decide_eq_true h4] at dg3
          have v3 : chr T n q3 - nI 97 = nI (T q3 - 97) := chr_val h4.1 h4.2.1
          rw [v3] at dg3
          rw [if_pos h4]
          refine ⟨q3 + 1, h4.1, rfl, fun d Q => ?_⟩
          simp (disch := omega) only [s_134_0, s_134_1, s_134_4, s_134_6, s_134_7, s_134_8, s_134_9, s_134_10, s_134_13, s_134_16, s_134_17_0, s_134_17_1, sb_134_17, s_134_18, s_134_19, s_134_20, s_134_23, s_134_24, s_134_25, s_134_28, s_134_29, s_134_32, s_134_34, s_134_37, s_134_38_0, s_134_38_1, sb_134_38, s_134_39, s_134_40, s_134_41, s_134_44, s_134_45, s_134_46, s_134_49, s_134_50, s_134_53, s_134_55, s_134_56, s_134_57, s_134_58, s_134_59, s_134_62, s_134_65, s_134_66, s_134_67, s_134_70, s_134_71_0, s_134_71_1, sb_134_71, s_134_72, s_134_73, s_134_74, s_134_77, s_134_78, s_134_79, s_134_82, s_134_83, s_134_86, s_134_88, s_134_89, s_134_91, s_134_93, s_134_96, s_134_99, s_134_100_0, s_134_100_1, sb_134_100, s_134_101, s_134_102, s_134_103, s_134_106, s_134_107, s_134_108, s_134_111, s_134_112, s_134_115, s_134_116, s_134_117, s_134_118, s_134_119, s_134_122, s_134_123, s_134_124, s_134_125, s_134_126, s_134_127, s_134_128, s_134_131, s_134_132, s_134_133, s_134_134, s_134_136, s_134_137, s_134_138_0, s_134_138_1, sb_134_138, ↓reduceIte, s0, ap_some, ap_none, v1, ic, g1, up_at, i_add, up_up, s1, h2c, s2, v2, g2, ne, s3, v3, c_X7_isThing, dg3, bI_0, Bool.true_eq_false, i_in, i_cl, true_and, rdM, Option.isSome]
          rfl
        · rw [decide_eq_false h4] at dg3
          rw [if_neg h4]
          refine ⟨q3, l3, i3, fun d Q => ?_⟩
          simp (disch := omega) only [s_134_0, s_134_1, s_134_4, s_134_6, s_134_7, s_134_8, s_134_9, s_134_10, s_134_13, s_134_16, s_134_17_0, s_134_17_1, sb_134_17, s_134_18, s_134_19, s_134_20, s_134_23, s_134_24, s_134_25, s_134_28, s_134_29, s_134_32, s_134_34, s_134_37, s_134_38_0, s_134_38_1, sb_134_38, s_134_39, s_134_40, s_134_41, s_134_44, s_134_45, s_134_46, s_134_49, s_134_50, s_134_53, s_134_55, s_134_56, s_134_57, s_134_58, s_134_59, s_134_62, s_134_65, s_134_66, s_134_67, s_134_70, s_134_71_0, s_134_71_1, sb_134_71, s_134_72, s_134_73, s_134_74, s_134_77, s_134_78, s_134_79, s_134_82, s_134_83, s_134_86, s_134_88, s_134_89, s_134_91, s_134_93, s_134_96, s_134_99, s_134_100_0, s_134_100_1, sb_134_100, s_134_101, s_134_102, s_134_103, s_134_106, s_134_107, s_134_108, s_134_111, s_134_112, s_134_115, s_134_116, s_134_117, s_134_118, s_134_119, s_134_122, s_134_123, s_134_124, s_134_125, s_134_126, s_134_127, s_134_128, s_134_131, s_134_132, s_134_133, s_134_134, s_134_136, s_134_137, s_134_138_0, s_134_138_1, sb_134_138, ↓reduceIte, s0, ap_some, ap_none, v1, ic, g1, up_at, i_add, up_up, s1, h2c, s2, v2, g2, ne, s3, c_X7_isThing, dg3, bI_0, Bool.true_eq_false, rdM, Option.isSome]
          rfl
      · rw [if_neg h3]
        refine ⟨q2, l2, i2, fun d Q => ?_⟩
        by_cases h31 : q2 < n ∧ 48 ≤ T q2 ∧ T q2 < 48 + c
        · have e2 : T q2 = T q := Classical.byContradiction fun hh => h3 ⟨h31, hh⟩
          have b2 := t4 q2 h31.1
          have v2 : chr T n q2 - nI 48 = nI (T q2 - 48) := chr_val h31.1 h31.2.1
          have g2 : isr (nI (T q2 - 48)) c = true := by rw [← v2, dg]; exact decide_eq_true h31
          have ne : (nI (T q2 - 48) = nI (T q - 48)) = True := eq_true (by rw [e2])
          simp (disch := omega) only [s_134_0, s_134_1, s_134_4, s_134_6, s_134_7, s_134_8, s_134_9, s_134_10, s_134_13, s_134_16, s_134_17_0, s_134_17_1, sb_134_17, s_134_18, s_134_19, s_134_20, s_134_23, s_134_24, s_134_25, s_134_28, s_134_29, s_134_32, s_134_34, s_134_37, s_134_38_0, s_134_38_1, sb_134_38, s_134_39, s_134_40, s_134_41, s_134_44, s_134_45, s_134_46, s_134_49, s_134_50, s_134_53, s_134_55, s_134_56, s_134_57, s_134_58, s_134_59, s_134_62, s_134_65, s_134_66, s_134_67, s_134_70, s_134_71_0, s_134_71_1, sb_134_71, s_134_72, s_134_73, s_134_74, s_134_77, s_134_78, s_134_79, s_134_82, s_134_83, s_134_86, s_134_88, s_134_89, s_134_91, s_134_93, s_134_96, s_134_99, s_134_100_0, s_134_100_1, sb_134_100, s_134_101, s_134_102, s_134_103, s_134_106, s_134_107, s_134_108, s_134_111, s_134_112, s_134_115, s_134_116, s_134_117, s_134_118, s_134_119, s_134_122, s_134_123, s_134_124, s_134_125, s_134_126, s_134_127, s_134_128, s_134_131, s_134_132, s_134_133, s_134_134, s_134_136, s_134_137, s_134_138_0, s_134_138_1, sb_134_138, ↓reduceIte, s0, ap_some, ap_none, v1, ic, g1, up_at, i_add, up_up, s1, h2c, s2, v2, g2, ne, bI_0, Bool.true_eq_false, rdM, Option.isSome]
          rfl
        · have g2 : isr (chr T n q2 - nI 48) c = false := by rw [dg]; exact decide_eq_false h31
          simp (disch := omega) only [s_134_0, s_134_1, s_134_4, s_134_6, s_134_7, s_134_8, s_134_9, s_134_10, s_134_13, s_134_16, s_134_17_0, s_134_17_1, sb_134_17, s_134_18, s_134_19, s_134_20, s_134_23, s_134_24, s_134_25, s_134_28, s_134_29, s_134_32, s_134_34, s_134_37, s_134_38_0, s_134_38_1, sb_134_38, s_134_39, s_134_40, s_134_41, s_134_44, s_134_45, s_134_46, s_134_49, s_134_50, s_134_53, s_134_55, s_134_56, s_134_57, s_134_58, s_134_59, s_134_62, s_134_65, s_134_66, s_134_67, s_134_70, s_134_71_0, s_134_71_1, sb_134_71, s_134_72, s_134_73, s_134_74, s_134_77, s_134_78, s_134_79, s_134_82, s_134_83, s_134_86, s_134_88, s_134_89, s_134_91, s_134_93, s_134_96, s_134_99, s_134_100_0, s_134_100_1, sb_134_100, s_134_101, s_134_102, s_134_103, s_134_106, s_134_107, s_134_108, s_134_111, s_134_112, s_134_115, s_134_116, s_134_117, s_134_118, s_134_119, s_134_122, s_134_123, s_134_124, s_134_125, s_134_126, s_134_127, s_134_128, s_134_131, s_134_132, s_134_133, s_134_134, s_134_136, s_134_137, s_134_138_0, s_134_138_1, sb_134_138, ↓reduceIte, s0, ap_some, ap_none, v1, ic, g1, up_at, i_add, up_up, s1, h2c, s2, g2, bI_0, Bool.true_eq_false, rdM, Option.isSome]
          rfl
    · rw [if_neg h2]
      have h2c : (chr T n q1 = nI 62) = False := by rw [chr_eq t4 (by decide)]; exact eq_false h2
      refine ⟨q1, l1, i1, fun d Q => ?_⟩
      simp (disch := omega) only [s_134_0, s_134_1, s_134_4, s_134_6, s_134_7, s_134_8, s_134_9, s_134_10, s_134_13, s_134_16, s_134_17_0, s_134_17_1, sb_134_17, s_134_18, s_134_19, s_134_20, s_134_23, s_134_24, s_134_25, s_134_28, s_134_29, s_134_32, s_134_34, s_134_37, s_134_38_0, s_134_38_1, sb_134_38, s_134_39, s_134_40, s_134_41, s_134_44, s_134_45, s_134_46, s_134_49, s_134_50, s_134_53, s_134_55, s_134_56, s_134_57, s_134_58, s_134_59, s_134_62, s_134_65, s_134_66, s_134_67, s_134_70, s_134_71_0, s_134_71_1, sb_134_71, s_134_72, s_134_73, s_134_74, s_134_77, s_134_78, s_134_79, s_134_82, s_134_83, s_134_86, s_134_88, s_134_89, s_134_91, s_134_93, s_134_96, s_134_99, s_134_100_0, s_134_100_1, sb_134_100, s_134_101, s_134_102, s_134_103, s_134_106, s_134_107, s_134_108, s_134_111, s_134_112, s_134_115, s_134_116, s_134_117, s_134_118, s_134_119, s_134_122, s_134_123, s_134_124, s_134_125, s_134_126, s_134_127, s_134_128, s_134_131, s_134_132, s_134_133, s_134_134, s_134_136, s_134_137, s_134_138_0, s_134_138_1, sb_134_138, ↓reduceIte, s0, ap_some, ap_none, v1, ic, g1, up_at, i_add, up_up, s1, h2c, bI_0, Bool.true_eq_false, rdM, Option.isSome]
      rfl
  · rw [if_neg h1]
    have g1 : isr (chr T n q - nI 48) c = false := by rw [dg]; exact decide_eq_false h1
    refine ⟨q, hq, hqi, fun d Q => ?_⟩
    simp (disch := omega) only [s_134_0, s_134_1, s_134_4, s_134_6, s_134_7, s_134_8, s_134_9, s_134_10, s_134_13, s_134_16, s_134_17_0, s_134_17_1, sb_134_17, s_134_18, s_134_19, s_134_20, s_134_23, s_134_24, s_134_25, s_134_28, s_134_29, s_134_32, s_134_34, s_134_37, s_134_38_0, s_134_38_1, sb_134_38, s_134_39, s_134_40, s_134_41, s_134_44, s_134_45, s_134_46, s_134_49, s_134_50, s_134_53, s_134_55, s_134_56, s_134_57, s_134_58, s_134_59, s_134_62, s_134_65, s_134_66, s_134_67, s_134_70, s_134_71_0, s_134_71_1, sb_134_71, s_134_72, s_134_73, s_134_74, s_134_77, s_134_78, s_134_79, s_134_82, s_134_83, s_134_86, s_134_88, s_134_89, s_134_91, s_134_93, s_134_96, s_134_99, s_134_100_0, s_134_100_1, sb_134_100, s_134_101, s_134_102, s_134_103, s_134_106, s_134_107, s_134_108, s_134_111, s_134_112, s_134_115, s_134_116, s_134_117, s_134_118, s_134_119, s_134_122, s_134_123, s_134_124, s_134_125, s_134_126, s_134_127, s_134_128, s_134_131, s_134_132, s_134_133, s_134_134, s_134_136, s_134_137, s_134_138_0, s_134_138_1, sb_134_138, ↓reduceIte, s0, ap_some, ic, g1, bI_0, rdM, Option.isSome]
    rfl
end PL
