/-! type: both alike -/
theorem in_ab (y : Int32) (a b : Nat) (ha : a < 2147483648) (hb : b < 2147483648) (d : Nat) (h : ex_H) (Q : Option Value → ex_H → Prop) : Go d 114 0 [some (.long y.toInt64), none, some (.long (lN a)), none, some (.long (lN b)), none] [] h Q = Q (some (.int (bI (decide ((a : Int) ≤ y.toInt ∧ y.toInt ≤ (b : Int)))))) h := by
  rw [c_X7_in, Int32.toInt_toInt64, lN_toInt ha, lN_toInt hb]
section TZ
variable {d : Nat} {Q : Option Value → ex_H → Prop} {lx : Nat} {xs : Nat → Int32} {M M1 : Nat → Nat → Int32} {x : Int32} {w : Int64} {S K : Nat → Nat → Nat} {hk : Bool} {n n1 nn : Nat} {T T1 : Nat → Nat} {Z : Nat → stZ}
theorem RepAC_T (h : RepAC M S hk K n T Z) (e : ∀ c, c ≠ 28 → c ≠ 34 → M1 c = M c) (h28 : M1 28 4 = nI n1) (h34 : ∀ i, i < n1 → M1 34 i = nI (T1 i)) : RepAC M1 S hk K n1 T1 Z := by
  obtain ⟨a1, a2, a3, a4, a5, a6, a7⟩ := h
  exact ⟨RepC_eq a1 fun c p q => e c (by omega) (by omega), fun i hi => by rw [e 5 (by decide) (by decide)]; exact a2 i hi, by rw [e 1 (by decide) (by decide)]; exact a3, fun q => ⟨RepC_eq (a4 q).1 fun c p q => e c (by omega) (by omega), fun i hi => by rw [e 18 (by decide) (by decide)]; exact (a4 q).2 i hi⟩, h28, h34, fun s hs => ZC_eq (a7 s hs) (e _ (by omega) (by omega)) (e _ (by omega) (by omega))⟩
theorem RepAM_T (h : RepAM M S hk K n T Z) (e : ∀ c, c ≠ 53 → c ≠ 59 → M1 c = M c) (e3 : ∀ j, j ≠ 10 → M1 53 j = M 53 j) (h10 : M1 53 10 = nI n1) (h59 : ∀ i, i < n1 → M1 59 i = nI (T1 i)) : RepAM M1 S hk K n1 T1 Z := by
  obtain ⟨a1, a2, a3, a4, a5, a6⟩ := h
  exact ⟨RepM_eq a1 (fun j _ _ => e3 j (by omega)) (fun c p q => e c (by omega) (by omega)), by rw [e3 28 (by decide)]; exact a2, fun q => RepK_eq (a3 q) (e 71 (by decide) (by decide)), h10, h59, fun s hs => ZM_eq (a6 s hs) (e 72 (by decide) (by decide)) (e 73 (by decide) (by decide)) (e 74 (by decide) (by decide))⟩
theorem c_X1_append_bad (h8 : nn ≤ 8) (h : ∃ k, k < nn ∧ ¬ (32 ≤ bt w k ∧ bt w k ≤ 126)) : Go (d + 1) 78 0 [some (.ref 28), some (.long w), none, some (.int (nI nn)), none, none] [] (HP lx xs M) Q = Q (some (.int (-1))) (HP lx xs M) := by
  obtain ⟨k, hk, hb⟩ := h
  simp only [s_78_0, s_78_1]
  exact ll_X1_append_no h8 nn 0 none (by omega) ⟨k, by omega, hk, hb⟩ d Q
theorem c_X1_append_go (h8 : nn ≤ 8) (hall : ∀ k, k < nn → 32 ≤ bt w k ∧ bt w k ≤ 126) (hn : n ≤ 160) (h0 : M 28 4 = nI n) : Go (d + 1) 78 0 [some (.ref 28), some (.long w), none, some (.int (nI nn)), none, none] [] (HP lx xs M) Q = if n + nn ≤ 160 then Q (some (.int (nI (n + nn)))) (HP lx xs (upr (up M 28 4 (nI (n + nn))) 34 (rng (M 34) (tpf w nn n) n nn))) else Q (some (.int (-3))) (HP lx xs M) := by
  obtain ⟨o5, r⟩ := ll_X1_append_ok (lx := lx) (xs := xs) (M := M) h8 hall nn 0 none (by omega)
  simp only [s_78_0, s_78_1]
  rw [r]
  have e : upr (up M 28 4 (nI (n + 0))) 34 (rng (M 34) (tpf w nn n) n 0) = M := by rw [rng_0, Nat.add_zero, up_same h0, upr_self]
  by_cases hf : n + nn ≤ 160
  · have hf2 : ¬ 160 < n + nn := by omega
    rw [if_pos hf]
    have l2 := ll_X1_app2 (lx := lx) (xs := xs) (M := M) (x := nI nn) (o5 := o5) h8 hf hall nn 0 (by omega) d Q
    rw [e] at l2
    simp (disch := omega) only [s_78_39, s_78_40, s_78_43, s_78_44, s_78_45, s_78_48, s_78_51, s_78_53, s_78_54, s_78_55, s_78_56, s_78_57, ↓reduceIte, h0, i_add, i_lt, hf2, sub_1]
    exact l2
  · have hf2 : 160 < n + nn := by omega
    rw [if_neg hf]
    simp (disch := omega) only [s_78_39, s_78_40, s_78_43, s_78_44, s_78_45, s_78_48, s_78_51, s_78_53, s_78_54, s_78_55, s_78_56, s_78_57, ↓reduceIte, h0, i_add, i_lt, hf2]
theorem op_type (hA : WA S hk K n T Z) : opA 22 129 [some (.ref 1), some (.long w), none, some (.int x)] [some (.ref 53), some (.long w), none, some (.int x), none] S hk K n T Z := by
  have hA' := hA
  obtain ⟨hW, hKW, hn, hT, hZ⟩ := hA'
  have c1 : (x < nI 1) = (x.toInt < 1) := x_ln x (by decide)
  have c8 : (nI 8 < x) = (8 < x.toInt) := x_nl x (by decide)
  have i18 : ∀ d h Q, Go d 114 0 [some (.long x.toInt64), none, some (.long (lN 1)), none, some (.long (lN 8)), none] [] h Q = Q (some (.int (bI (decide (1 ≤ x.toInt ∧ x.toInt ≤ 8))))) h := fun d h Q => in_ab x 1 8 (by decide) (by decide) d h Q
  by_cases h1 : 1 ≤ x.toInt ∧ x.toInt ≤ 8
  · have d1 : (x < nI 1) = False := by rw [c1]; exact eq_false (by omega)
    have d8 : (nI 8 < x) = False := by rw [c8]; exact eq_false (by omega)
    rw [decide_eq_true h1] at i18
    obtain ⟨nn, hnn, h8, rfl⟩ : ∃ nn, 1 ≤ nn ∧ nn ≤ 8 ∧ x = nI nn := by
      obtain ⟨j, hj, rfl⟩ := nI_of (x := x) (by rw [x_l0]; omega)
      rw [i_int hj] at h1
      exact ⟨j, by omega, by omega, rfl⟩
    by_cases hall : ∀ k, k < nn → 32 ≤ bt w k ∧ bt w k ≤ 126
    · by_cases hf : n + nn ≤ 160
      · have hf2 : ¬ 160 < n + nn := by omega
        refine ⟨nI (n + nn), S, hk, K, n + nn, fun k => if k < n then T k else bt w (nn - 1 - (k - n)), Z, ⟨hW, hKW, hf, fun i hi => ?_, hZ⟩, fun lx xs M hR => ?_, fun lx xs M hR => ?_⟩
        · by_cases e : i < n
          · simp only [e, ↓reduceIte]; exact hT i e
          · simp only [e, ↓reduceIte]; exact hall _ (by omega)
        · have h0 := hR.2.2.2.2.1
          have h34 := hR.2.2.2.2.2.1
          refine ⟨upr (up M 28 4 (nI (n + nn))) 34 (rng (M 34) (tpf w nn n) n nn), RepAC_T hR (fun c q1 q2 => ?_) ?_ (fun i hi => ?_), fun c hc => ?_, fun Q => ?_⟩
          · rw [upr_ne _ _ q2, up_ne _ _ _ q1]
          · rw [upr_ne _ _ (by decide), up_at]
          · rw [upr_eq]
            by_cases e : i < n
            · rw [rng_out (by omega), h34 i e]; simp only [e, ↓reduceIte]
            · rw [rng_in (by omega)]; simp only [e, ↓reduceIte]; rfl
          · rw [upr_ne _ _ (by omega), up_ne _ _ _ (by omega)]
          · simp (disch := omega) only [s_22_0, s_22_1, s_22_2, s_22_5, s_22_6, s_22_8, s_22_11, s_22_12, s_22_13, s_22_14, s_22_17, s_22_18, s_22_19, s_22_22, ↓reduceIte, d1, d8, c_X1_append_go h8 hall hn h0, hf, ap_some]
        · have h0 := hR.2.2.2.1
          have h59 := hR.2.2.2.2.1
          refine ⟨upr (up M 53 10 (nI (n + nn))) 59 (rng (M 59) (tpf w nn n) n nn), RepAM_T hR (fun c q1 q2 => ?_) (fun j hj => ?_) ?_ (fun i hi => ?_), fun c hc => ?_, fun Q => ?_⟩
          · rw [upr_ne _ _ q2, up_ne _ _ _ q1]
          · rw [upr_ne _ _ (by decide), up_off hj]
          · rw [upr_ne _ _ (by decide), up_at]
          · rw [upr_eq]
            by_cases e : i < n
            · rw [rng_out (by omega), h59 i e]; simp only [e, ↓reduceIte]
            · rw [rng_in (by omega)]; simp only [e, ↓reduceIte]; rfl
          · rw [upr_ne _ _ (by omega), up_ne _ _ _ (by omega)]
          · have e : upr (up M 53 10 (nI (n + 0))) 59 (rng (M 59) (tpf w nn n) n 0) = M := by rw [rng_0, Nat.add_zero, up_same h0, upr_self]
            have l1 := ll_X7_type_ok (lx := lx) (xs := xs) (M := M) (w := w) (x := nI nn) nn h8 hall 1998 Q
            have l2 := ll_X7_typ2 (lx := lx) (xs := xs) (M := M) (w := w) (x := nI nn) h8 hf hall nn 0 (by omega) 1998 Q
            rw [e] at l2
            simp only [Nat.reduceAdd] at l1 l2
            simp (disch := omega) only [s_129_0, s_129_1, s_129_2, s_129_3, s_129_6, s_129_9, s_129_12, s_129_13, s_129_14, s_129_15, s_129_16, s_129_17, ↓reduceIte, i18, ap_some, bI_0, Bool.true_eq_false, sub_1]
            rw [l1]
            simp (disch := omega) only [s_129_55, s_129_56, s_129_59, s_129_60, s_129_61, s_129_64, s_129_67, s_129_69, s_129_70, s_129_71, s_129_72, s_129_73, ↓reduceIte, h0, i_add, i_lt, hf2, sub_1]
            exact l2
      · have hf2 : 160 < n + nn := by omega
        refine opA_same (-3) hA (fun lx xs M hR Q => ?_) (fun lx xs M hR Q => ?_)
        · have h0 := hR.2.2.2.2.1
          simp (disch := omega) only [s_22_0, s_22_1, s_22_2, s_22_5, s_22_6, s_22_8, s_22_11, s_22_12, s_22_13, s_22_14, s_22_17, s_22_18, s_22_19, s_22_22, ↓reduceIte, d1, d8, c_X1_append_go h8 hall hn h0, hf, ap_some]
        · have h0 := hR.2.2.2.1
          have l1 := ll_X7_type_ok (lx := lx) (xs := xs) (M := M) (w := w) (x := nI nn) nn h8 hall 1998 Q
          simp only [Nat.reduceAdd] at l1
          simp (disch := omega) only [s_129_0, s_129_1, s_129_2, s_129_3, s_129_6, s_129_9, s_129_12, s_129_13, s_129_14, s_129_15, s_129_16, s_129_17, ↓reduceIte, i18, ap_some, bI_0, Bool.true_eq_false, sub_1]
          rw [l1]
          simp (disch := omega) only [s_129_55, s_129_56, s_129_59, s_129_60, s_129_61, s_129_64, s_129_67, s_129_69, s_129_70, s_129_71, s_129_72, s_129_73, ↓reduceIte, h0, i_add, i_lt, hf2]
    · have hno : ∃ k, k < nn ∧ ¬ (32 ≤ bt w k ∧ bt w k ≤ 126) := by
        apply Classical.byContradiction
        intro hh
        exact hall fun k hk => Classical.byContradiction fun q => hh ⟨k, hk, q⟩
      refine opA_same (-1) hA (fun lx xs M hR Q => ?_) (fun lx xs M hR Q => ?_)
      · simp (disch := omega) only [s_22_0, s_22_1, s_22_2, s_22_5, s_22_6, s_22_8, s_22_11, s_22_12, s_22_13, s_22_14, s_22_17, s_22_18, s_22_19, s_22_22, ↓reduceIte, d1, d8, c_X1_append_bad h8 hno, ap_some]
      · have l1 := ll_X7_type_no (lx := lx) (xs := xs) (M := M) (w := w) (x := nI nn) nn h8 hno 1998 Q
        simp only [Nat.reduceAdd] at l1
        simp (disch := omega) only [s_129_0, s_129_1, s_129_2, s_129_3, s_129_6, s_129_9, s_129_12, s_129_13, s_129_14, s_129_15, s_129_16, s_129_17, ↓reduceIte, i18, ap_some, bI_0, Bool.true_eq_false, sub_1]
        rw [l1]
  · rw [decide_eq_false h1] at i18
    refine opA_same (-1) hA (fun lx xs M hR Q => ?_) (fun lx xs M hR Q => ?_)
    · by_cases h4 : x.toInt < 1
      · have d1 : (x < nI 1) = True := by rw [c1]; exact eq_true h4
        simp only [s_22_0, s_22_1, s_22_2, s_22_5, s_22_6, s_22_8, s_22_11, s_22_12, s_22_13, s_22_14, s_22_17, s_22_18, s_22_19, s_22_22, ↓reduceIte, d1]
      · have d1 : (x < nI 1) = False := by rw [c1]; exact eq_false h4
        have d8 : (nI 8 < x) = True := by rw [c8]; exact eq_true (by omega)
        simp only [s_22_0, s_22_1, s_22_2, s_22_5, s_22_6, s_22_8, s_22_11, s_22_12, s_22_13, s_22_14, s_22_17, s_22_18, s_22_19, s_22_22, ↓reduceIte, d1, d8]
    · simp (disch := omega) only [s_129_0, s_129_1, s_129_2, s_129_3, s_129_6, s_129_9, s_129_12, s_129_13, ↓reduceIte, i18, ap_some, bI_0]
end TZ
