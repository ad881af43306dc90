/-! a school's text: both alike -/
def DC (M : Nat → Nat → Int32) (k : Nat) (D : Nat → Nat → Nat) : Prop := ∀ i, i < k → M 29 i = nI (D 0 i) ∧ M 30 i = nI (D 1 i)
def DM (M : Nat → Nat → Int32) (k : Nat) (D : Nat → Nat → Nat) : Prop := ∀ i, i < k → M 60 (2 * i) = nI (D 0 i) ∧ M 60 (2 * i + 1) = nI (D 1 i)
def DW (D : Nat → Nat → Nat) (k : Nat) : Prop := ∀ i, i < k → D 0 i < 4 ∧ D 1 i < 16
def setD (D : Nat → Nat → Nat) (k a b : Nat) : Nat → Nat → Nat := fun r i => if i = k then (if r = 0 then a else b) else D r i
theorem setD_at {D : Nat → Nat → Nat} {k a b : Nat} : setD D k a b 0 k = a ∧ setD D k a b 1 k = b := by unfold setD; simp
theorem setD_off {D : Nat → Nat → Nat} {k a b r i : Nat} (h : i ≠ k) : setD D k a b r i = D r i := if_neg h
theorem DW_set {D : Nat → Nat → Nat} {k a b : Nat} (h : DW D k) (ha : a < 4) (hb : b < 16) : DW (setD D k a b) (k + 1) := by
  intro i hi
  by_cases e : i = k
  · subst e; rw [setD_at.1, setD_at.2]; exact ⟨ha, hb⟩
  · rw [setD_off e, setD_off e]; exact h i (by omega)
theorem sc_both {T : Nat → Nat} {n : Nat} (hn : n ≤ 160) (t4 : ∀ i, i < n → 32 ≤ T i ∧ T i ≤ 126) : ∀ m k q D, k + m = 5 → q ≤ n → sk T n q = q → DW D k →
 (∃ f, f ≤ n ∧ (∀ lx xs M, TPC M n T → M 28 5 = nI q → DC M k D → ∃ M1, frR M M1 ∧ ∀ d Q, Go (d + 3) 87 30 [some (.ref 28), some (.int (nI k))] [] (HP lx xs M) Q = Q (some (.int (-20 - nI f))) (HP lx xs M1)) ∧
   (∀ lx xs M p, TPM M n T → M 53 11 = nI p → p ≤ n → sk T n p = q → DM M k D → ∃ M1 p', frQ M M1 ∧ M1 53 11 = nI p' ∧ p' ≤ n ∧ sk T n p' = f ∧ ∀ d Q o2, Go (d + 2) 132 7 [some (.ref 53), some (.int (nI k)), o2] [] (HP lx xs M) Q = Q (some (.int (nI 0))) (HP lx xs M1))) ∨
 (∃ K D1, 0 < K ∧ K ≤ 6 ∧ DW D1 K ∧ (∀ lx xs M, TPC M n T → M 28 5 = nI q → DC M k D → ∃ M1, frR M M1 ∧ DC M1 K D1 ∧ ∀ d Q, Go (d + 3) 87 30 [some (.ref 28), some (.int (nI k))] [] (HP lx xs M) Q = Q (some (.int (nI K))) (HP lx xs M1)) ∧
   (∀ lx xs M p, TPM M n T → M 53 11 = nI p → p ≤ n → sk T n p = q → DM M k D → ∃ M1, frQ M M1 ∧ M1 53 12 = nI K ∧ DM M1 K D1 ∧ ∀ d Q o2, Go (d + 2) 132 7 [some (.ref 53), some (.int (nI k)), o2] [] (HP lx xs M) Q = Q (some (.int (nI 1))) (HP lx xs M1))) := by
  intro m
  induction m using Nat.strongRecOn with
  | _ m ih =>
  intro k q D hk hq hqi hD
  have hk6 : k < 6 := by omega
  match hv : kq T n q with
  | none =>
    left
    refine ⟨q, hq, fun lx xs M hT h5 hR => ⟨up M 29 k (-4), frR_up (fun c _ _ _ _ _ _ => rfl) (by omega), fun d Q => ?_⟩, fun lx xs M p hT h5 hp hs hR => ⟨up M 53 11 (nI q), q, frQ_up ⟨fun _ _ _ => rfl, fun _ _ _ => rfl⟩ (by omega), up_at, hq, hqi, fun d Q o2 => ?_⟩⟩
    · have sg := fun d Q => c_X1_sign (d := d) (Q := Q) (lx := lx) (xs := xs) hT h5 hq
      have ko := fun d Q => c_X1_kindOf (d := d) (Q := Q) (lx := lx) (xs := xs) (M := M) (q := q) t4
      rw [hv] at ko
      have z4 : ((-4 : Int32) < 0) = True := by decide
      have fa := fun d Q => c_X1_fault (d := d) (Q := Q) (lx := lx) (xs := xs) (M := up M 29 k (-4)) (p := q) (by rw [up_ne _ _ _ (by decide)]; exact h5)
      simp (disch := omega) only [s_87_30, s_87_31, s_87_34, s_87_35, s_87_36, s_87_39, s_87_42, s_87_43, s_87_44, s_87_47, s_87_48, s_87_49, s_87_52, s_87_53, s_87_56, ↓reduceIte, sg, ko, kV, ap_some, i_in, i_cl, true_and, up_at, z4, fa]
    · have rc := fun d Q => c_X7_readChild (d := d) (Q := Q) (lx := lx) (xs := xs) hk6 hT h5 hp hs
      rw [hv] at rc
      dsimp only at rc
      rw [s_132_7]
      simp (disch := omega) only [s_132_8, s_132_10, s_132_13, s_132_14, s_132_15, s_132_18, s_132_21, s_132_22_0, s_132_22_1, sb_132_22, ↓reduceIte, i_lt, hk6, rc, ap_some, n0_0]
  | some kd =>
    have hqn : q < n := by
      unfold kq at hv
      by_cases h : q < n
      · exact h
      · rw [if_neg h] at hv; cases hv
    have hkd : kd < 4 := by
      unfold kq at hv; rw [if_pos hqn] at hv; exact kd_lt hv
    have n1 := nx_le (T := T) hqn
    have i1 := nx_idem (T := T) hqn
    obtain ⟨rl1, rl2, rl3⟩ := rth_le (T := T) (n := n) 4 0 (nx T n q) n1 (by decide)
    have rl3 := rl3 i1
    -- the class behind the child
    have k6 : ∀ lx xs M, TPC M n T → M 28 5 = nI q → DC M k D → ∃ A, frR M A ∧ TPC A n T ∧ A 28 5 = nI (rth T n 4 0 (nx T n q)).2 ∧ DC A (k + 1) (setD D k kd (rth T n 4 0 (nx T n q)).1) ∧ ∀ d Q, Go (d + 3) 87 30 [some (.ref 28), some (.int (nI k))] [] (HP lx xs M) Q = if (rth T n 4 0 (nx T n q)).2 < n then Go (d + 3) 87 83 [some (.ref 28), some (.int (nI k))] [] (HP lx xs A) Q else Q (some (.int (nI (k + 1)))) (HP lx xs A) := by
      intro lx xs M hT h5 hR
      have sg := fun d Q => c_X1_sign (d := d) (Q := Q) (lx := lx) (xs := xs) hT h5 hq
      have ko := fun d Q => c_X1_kindOf (d := d) (Q := Q) (lx := lx) (xs := xs) (M := M) (q := q) t4
      rw [hv] at ko
      have hT1 : TPC (up M 29 k (nI kd)) n T := TPC_ne hT (by decide) (by decide)
      have st := fun d Q => c_X1_step (d := d) (Q := Q) (lx := lx) (xs := xs) hT1 (by rw [up_ne _ _ _ (by decide)]; exact h5) hqn
      have hT2 : TPC (up (up M 29 k (nI kd)) 28 5 (nI (nx T n q))) n T := TPC_up hT1
      have rt := fun d Q => c_X1_readThings (d := d) (Q := Q) (lx := lx) (xs := xs) n1 hT2 up_at
      simp only [up_up] at rt
      have hT3 : TPC (up (up (up M 29 k (nI kd)) 28 5 (nI (rth T n 4 0 (nx T n q)).2)) 30 k (nI (rth T n 4 0 (nx T n q)).1)) n T := TPC_ne (TPC_up hT1) (by decide) (by decide)
      have sg2 := fun d Q => c_X1_sign (d := d) (Q := Q) (lx := lx) (xs := xs) (p := (rth T n 4 0 (nx T n q)).2) hT3 (by rw [up_ne _ _ _ (by decide), up_at]) rl2
      refine ⟨up (up (up M 29 k (nI kd)) 28 5 (nI (rth T n 4 0 (nx T n q)).2)) 30 k (nI (rth T n 4 0 (nx T n q)).1), frR_up (frR_up (frR_up (fun c _ _ _ _ _ _ => rfl) (by omega)) (by omega)) (by omega), hT3, by rw [up_ne _ _ _ (by decide), up_at], fun i hi => ?_, fun d Q => ?_⟩
      · by_cases e : i = k
        · subst e
          rw [setD_at.1, setD_at.2, up_ne _ _ _ (by decide), up_ne _ _ _ (by decide), up_at]
          exact ⟨rfl, up_at⟩
        · rw [setD_off e, setD_off e, up_ne _ _ _ (by decide), up_ne _ _ _ (by decide), up_off e, up_off e, up_ne _ _ _ (by decide), up_ne _ _ _ (by decide)]
          exact hR i (by omega)
      · by_cases hl : (rth T n 4 0 (nx T n q)).2 < n
        · have e : (chr T n (rth T n 4 0 (nx T n q)).2 = -1) = False := by rw [chr_m1 t4]; exact eq_false (fun z => z hl)
          rw [if_pos hl]
          simp (disch := omega) only [s_87_30, s_87_31, s_87_34, s_87_35, s_87_36, s_87_39, s_87_42, s_87_43, s_87_44, s_87_47, s_87_48, s_87_49, s_87_52, s_87_53, s_87_56, s_87_57, s_87_58, s_87_61, s_87_62, s_87_65, s_87_66, s_87_67, s_87_70, s_87_71, s_87_72, s_87_75, s_87_76, s_87_79, s_87_80, s_87_81, s_87_82, ↓reduceIte, sg, ko, kV, ap_some, ap_none, i_in, i_cl, true_and, up_at, i_l0, st, rt, sg2, e]
        · have e : (chr T n (rth T n 4 0 (nx T n q)).2 = -1) = True := by rw [chr_m1 t4]; exact eq_true hl
          rw [if_neg hl]
          simp (disch := omega) only [s_87_30, s_87_31, s_87_34, s_87_35, s_87_36, s_87_39, s_87_42, s_87_43, s_87_44, s_87_47, s_87_48, s_87_49, s_87_52, s_87_53, s_87_56, s_87_57, s_87_58, s_87_61, s_87_62, s_87_65, s_87_66, s_87_67, s_87_70, s_87_71, s_87_72, s_87_75, s_87_76, s_87_79, s_87_80, s_87_81, s_87_82, ↓reduceIte, sg, ko, kV, ap_some, ap_none, i_in, i_cl, true_and, up_at, i_l0, st, rt, sg2, e, i_add]
    have r7 : ∀ lx xs M p, TPM M n T → M 53 11 = nI p → p ≤ n → sk T n p = q → ∀ d Q, Go (d + 1) 131 0 [some (.ref 53), some (.int (nI k)), none, none, none, none] [] (HP lx xs M) Q = if (rth T n 4 0 (nx T n q)).2 < n ∧ 97 ≤ T (rth T n 4 0 (nx T n q)).2 ∧ T (rth T n 4 0 (nx T n q)).2 < 97 + 4 then Q (some (.int (nI 0))) (HP lx xs (up M 53 11 (nI (rth T n 4 0 (nx T n q)).2))) else Q (some (.int (nI 1))) (HP lx xs (up (up (up M 53 11 (nI (rth T n 4 0 (nx T n q)).2)) 60 (2 * k) (nI kd)) 60 (2 * k + 1) (nI (rth T n 4 0 (nx T n q)).1))) := by
      intro lx xs M p hT h5 hp hs d Q
      have rc := c_X7_readChild (d := d) (Q := Q) (lx := lx) (xs := xs) hk6 hT h5 hp hs
      rw [hv] at rc
      exact rc
    generalize (rth T n 4 0 (nx T n q)).2 = q1 at *
    generalize (rth T n 4 0 (nx T n q)).1 = s1 at *
    -- the class: something else than a comma, or no room
    have bad6 : q1 < n → (k + 1 = 6 ∨ T q1 ≠ 44) → ∀ lx xs M, TPC M n T → M 28 5 = nI q → DC M k D → ∃ M1, frR M M1 ∧ ∀ d Q, Go (d + 3) 87 30 [some (.ref 28), some (.int (nI k))] [] (HP lx xs M) Q = Q (some (.int (-20 - nI q1))) (HP lx xs M1) := by
      intro hl h44 lx xs M hT h5 hR
      obtain ⟨A, b1, b2, b3, b4, b5⟩ := k6 lx xs M hT h5 hR
      refine ⟨A, b1, fun d Q => ?_⟩
      have fa := fun d Q => c_X1_fault (d := d) (Q := Q) (lx := lx) (xs := xs) b3
      rw [b5, if_pos hl]
      by_cases h6 : k + 1 = 6
      · have hk5 : k = 5 := by omega
        subst hk5
        simp (disch := omega) only [s_87_83, s_87_86, s_87_89, s_87_90, s_87_93, s_87_6, s_87_7, s_87_9, ↓reduceIte, i_add, Nat.reduceAdd, i_lt, Nat.lt_irrefl, fa, ap_some]
      · have e1 : T q1 ≠ 44 := by omega
        have hk1 : k + 1 < 6 := by omega
        have k0 : 0 < k + 1 := by omega
        have tb := fun d Q => c_X1_takes (d := d) (Q := Q) (lx := lx) (xs := xs) (c := 44) b2 b3 rl2 (by decide)
        simp only [e1, and_false, ↓reduceIte] at tb
        simp (disch := omega) only [s_87_83, s_87_86, s_87_6, s_87_7, s_87_9, s_87_12, s_87_13, s_87_16, s_87_17, s_87_19, s_87_22, s_87_25, s_87_26, s_87_29, ↓reduceIte, i_add, i_lt, hk1, i_0l, k0, tb, ap_some, n0_0, fa]
    by_cases hL : q1 < n ∧ 97 ≤ T q1 ∧ T q1 < 97 + 4
    · left
      refine ⟨q1, rl2, bad6 hL.1 (Or.inr (by omega)), fun lx xs M p hT h5 hp hs hR => ⟨up M 53 11 (nI q1), q1, frQ_up ⟨fun _ _ _ => rfl, fun _ _ _ => rfl⟩ (by omega), up_at, rl2, rl3, fun d Q o2 => ?_⟩⟩
      have rc := r7 lx xs M p hT h5 hp hs
      simp only [hL, and_self, ↓reduceIte] at rc
      rw [s_132_7]
      simp (disch := omega) only [s_132_8, s_132_10, s_132_13, s_132_14, s_132_15, s_132_18, s_132_21, s_132_22_0, s_132_22_1, sb_132_22, ↓reduceIte, i_lt, hk6, rc, ap_some, n0_0]
    · simp only [hL, ↓reduceIte] at r7
      have k7 : ∀ lx xs M p, TPM M n T → M 53 11 = nI p → p ≤ n → sk T n p = q → DM M k D → ∃ A, frQ M A ∧ A 53 12 = nI (k + 1) ∧ DM A (k + 1) (setD D k kd s1) ∧ A 53 11 = nI q1 ∧ ∀ d Q o2, Go (d + 2) 132 7 [some (.ref 53), some (.int (nI k)), o2] [] (HP lx xs M) Q = if q1 < n then Go (d + 2) 132 41 [some (.ref 53), some (.int (nI k)), some (.int (nI (T q1)))] [] (HP lx xs A) Q else Q (some (.int (nI 1))) (HP lx xs A) := by
        intro lx xs M p hT h5 hp hs hR
        have rc := r7 lx xs M p hT h5 hp hs
        have fq : frQ M (up (up (up (up M 53 11 (nI q1)) 60 (2 * k) (nI kd)) 60 (2 * k + 1) (nI s1)) 53 12 (nI (k + 1))) := frQ_up (frQ_up (frQ_up (frQ_up ⟨fun _ _ _ => rfl, fun _ _ _ => rfl⟩ (by omega)) (by omega)) (by omega)) (by omega)
        have e11 : (up (up (up (up M 53 11 (nI q1)) 60 (2 * k) (nI kd)) 60 (2 * k + 1) (nI s1)) 53 12 (nI (k + 1))) 53 11 = nI q1 := by rw [up_off (by decide), up_ne _ _ _ (by decide), up_ne _ _ _ (by decide), up_at]
        have nb := fun d Q => c_X7_nextByte (d := d) (Q := Q) (lx := lx) (xs := xs) (frQ_TPM hT fq) e11 rl2
        rw [rl3, up_same e11] at nb
        refine ⟨up (up (up (up M 53 11 (nI q1)) 60 (2 * k) (nI kd)) 60 (2 * k + 1) (nI s1)) 53 12 (nI (k + 1)), fq, up_at, fun i hi => ?_, e11, fun d Q o2 => ?_⟩
        · rw [up_ne _ _ _ (by decide)]
          by_cases e : i = k
          · subst e
            rw [setD_at.1, setD_at.2, up_off (by omega), up_at]
            exact ⟨rfl, up_at⟩
          · rw [setD_off e, setD_off e, up_off (by omega), up_off (by omega), up_off (by omega), up_off (by omega), up_ne _ _ _ (by decide)]
            exact hR i (by omega)
        · rw [s_132_7]
          by_cases hl : q1 < n
          · have bq := t4 _ hl
            have e : chr T n q1 = nI (T q1) := if_pos hl
            rw [e] at nb
            rw [if_pos hl]
            simp (disch := omega) only [s_132_8, s_132_10, s_132_13, s_132_14, s_132_15, s_132_18, s_132_21, s_132_22_0, s_132_22_1, sb_132_22, s_132_23, s_132_24, s_132_25, s_132_26, s_132_27, s_132_30, s_132_31, s_132_34, s_132_35, s_132_36, s_132_39, s_132_40_0, s_132_40_1, sb_132_40, ↓reduceIte, i_lt, hk6, rc, ap_some, n1_0, i_add, nb, i_l0]
          · have e : (chr T n q1 < 0) = True := by rw [chr_l0 t4]; exact eq_true hl
            rw [if_neg hl]
            simp (disch := omega) only [s_132_8, s_132_10, s_132_13, s_132_14, s_132_15, s_132_18, s_132_21, s_132_22_0, s_132_22_1, sb_132_22, s_132_23, s_132_24, s_132_25, s_132_26, s_132_27, s_132_30, s_132_31, s_132_34, s_132_35, s_132_36, s_132_39, s_132_40_0, s_132_40_1, sb_132_40, ↓reduceIte, i_lt, hk6, rc, ap_some, n1_0, i_add, nb, e]
      by_cases hl : q1 < n
      · simp only [hl, ↓reduceIte] at k6 k7
        have bq := t4 _ hl
        by_cases h6 : k + 1 = 6
        · left
          refine ⟨q1, rl2, bad6 hl (Or.inl h6), fun lx xs M p hT h5 hp hs hR => ?_⟩
          obtain ⟨A, b1, b2, b3, b4, b6⟩ := k7 lx xs M p hT h5 hp hs hR
          refine ⟨A, q1, b1, b4, rl2, rl3, fun d Q o2 => ?_⟩
          have hk5 : k = 5 := by omega
          rw [b6]
          by_cases e1 : T q1 = 44
          · simp (disch := omega) only [s_132_41, s_132_42, s_132_44, s_132_47, s_132_48, s_132_49, s_132_52, s_132_53_0, s_132_53_1, sb_132_53, ↓reduceIte, i_eq, e1, hk5]
          · simp (disch := omega) only [s_132_41, s_132_42, s_132_44, s_132_47, s_132_48, s_132_49, s_132_52, s_132_53_0, s_132_53_1, sb_132_53, ↓reduceIte, i_eq, e1]
        · by_cases e1 : T q1 = 44
          · have hk1 : k + 1 < 6 := by omega
            have k0 : 0 < k + 1 := by omega
            have k5 : (k = 5) = False := eq_false (by omega)
            have c6 : ∀ lx xs A, TPC A n T → A 28 5 = nI q1 → ∀ d Q, Go (d + 3) 87 83 [some (.ref 28), some (.int (nI k))] [] (HP lx xs A) Q = Go (d + 3) 87 30 [some (.ref 28), some (.int (nI (k + 1)))] [] (HP lx xs (up A 28 5 (nI (nx T n q1)))) Q := by
              intro lx xs A hT h5 d Q
              have tb := fun d Q => c_X1_takes (d := d) (Q := Q) (lx := lx) (xs := xs) (c := 44) hT h5 rl2 (by decide)
              simp only [hl, e1, and_self, ↓reduceIte] at tb
              simp (disch := omega) only [s_87_83, s_87_86, s_87_6, s_87_7, s_87_9, s_87_12, s_87_13, s_87_16, s_87_17, s_87_19, s_87_22, s_87_25, s_87_26, s_87_29, ↓reduceIte, i_add, i_lt, hk1, i_0l, k0, tb, ap_some, n1_0]
            have c7 : ∀ lx xs A, A 53 11 = nI q1 → ∀ d Q, Go (d + 2) 132 41 [some (.ref 53), some (.int (nI k)), some (.int (nI (T q1)))] [] (HP lx xs A) Q = Go (d + 2) 132 7 [some (.ref 53), some (.int (nI (k + 1))), some (.int (nI (T q1)))] [] (HP lx xs (up A 53 11 (nI (q1 + 1)))) Q := by
              intro lx xs A h5 d Q
              rw [e1]
              simp (disch := omega) only [s_132_41, s_132_42, s_132_44, s_132_47, s_132_48, s_132_49, s_132_52, s_132_53_0, s_132_53_1, sb_132_53, s_132_54, s_132_55, s_132_56, s_132_59, s_132_60, s_132_61, s_132_64, s_132_67, ↓reduceIte, i_eq, k5, h5, i_add]
            rcases ih (m - 1) (by omega) (k + 1) (nx T n q1) (setD D k kd s1) (by omega) (nx_le hl) (nx_idem hl) (DW_set hD hkd rl1) with ⟨f, f1, f6, f7⟩ | ⟨K, D1, g1, g2, g3, g6, g7⟩
            · left
              refine ⟨f, f1, fun lx xs M hT h5 hR => ?_, fun lx xs M p hT h5 hp hs hR => ?_⟩
              · obtain ⟨A, b1, b2, b3, b4, b5⟩ := k6 lx xs M hT h5 hR
                obtain ⟨M1, u1, u2⟩ := f6 lx xs (up A 28 5 (nI (nx T n q1))) (TPC_up b2) up_at (fun i hi => by rw [up_ne _ _ _ (by decide), up_ne _ _ _ (by decide)]; exact b4 i hi)
                exact ⟨M1, frR_tr (frR_up b1 (by omega)) u1, fun d Q => by rw [b5, c6 lx xs A b2 b3, u2]⟩
              · obtain ⟨A, b1, b2, b3, b4, b6⟩ := k7 lx xs M p hT h5 hp hs hR
                obtain ⟨M1, p', u1, u2, u3, u4, u5⟩ := f7 lx xs (up A 53 11 (nI (q1 + 1))) (q1 + 1) (TPM_up (frQ_TPM hT b1) (by decide)) up_at (by omega) rfl (fun i hi => by rw [up_ne _ _ _ (by decide)]; exact b3 i hi)
                exact ⟨M1, p', frQ_tr (frQ_up b1 (by omega)) u1, u2, u3, u4, fun d Q o2 => by rw [b6, c7 lx xs A b4, u5]⟩
            · right
              refine ⟨K, D1, g1, g2, g3, fun lx xs M hT h5 hR => ?_, fun lx xs M p hT h5 hp hs hR => ?_⟩
              · obtain ⟨A, b1, b2, b3, b4, b5⟩ := k6 lx xs M hT h5 hR
                obtain ⟨M1, u1, u3, u2⟩ := g6 lx xs (up A 28 5 (nI (nx T n q1))) (TPC_up b2) up_at (fun i hi => by rw [up_ne _ _ _ (by decide), up_ne _ _ _ (by decide)]; exact b4 i hi)
                exact ⟨M1, frR_tr (frR_up b1 (by omega)) u1, u3, fun d Q => by rw [b5, c6 lx xs A b2 b3, u2]⟩
              · obtain ⟨A, b1, b2, b3, b4, b6⟩ := k7 lx xs M p hT h5 hp hs hR
                obtain ⟨M1, u1, u2, u3, u5⟩ := g7 lx xs (up A 53 11 (nI (q1 + 1))) (q1 + 1) (TPM_up (frQ_TPM hT b1) (by decide)) up_at (by omega) rfl (fun i hi => by rw [up_ne _ _ _ (by decide)]; exact b3 i hi)
                exact ⟨M1, frQ_tr (frQ_up b1 (by omega)) u1, u2, u3, fun d Q o2 => by rw [b6, c7 lx xs A b4, u5]⟩
          · left
            refine ⟨q1, rl2, bad6 hl (Or.inr e1), fun lx xs M p hT h5 hp hs hR => ?_⟩
            obtain ⟨A, b1, b2, b3, b4, b6⟩ := k7 lx xs M p hT h5 hp hs hR
            refine ⟨A, q1, b1, b4, rl2, rl3, fun d Q o2 => ?_⟩
            rw [b6]
            simp (disch := omega) only [s_132_41, s_132_42, s_132_44, s_132_47, s_132_48, s_132_49, s_132_52, s_132_53_0, s_132_53_1, sb_132_53, ↓reduceIte, i_eq, e1]
      · simp only [hl, ↓reduceIte] at k6 k7
        right
        refine ⟨k + 1, setD D k kd s1, by omega, by omega, DW_set hD hkd rl1, fun lx xs M hT h5 hR => ?_, fun lx xs M p hT h5 hp hs hR => ?_⟩
        · obtain ⟨A, b1, b2, b3, b4, b5⟩ := k6 lx xs M hT h5 hR
          exact ⟨A, b1, b4, b5⟩
        · obtain ⟨A, b1, b2, b3, b4, b6⟩ := k7 lx xs M p hT h5 hp hs hR
          exact ⟨A, b1, b2, b3, b6⟩
