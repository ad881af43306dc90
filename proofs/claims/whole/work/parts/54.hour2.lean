/-! hour: both alike -/
section HP2
variable {d : Nat} {Q : Option Value → ex_H → Prop} {lx : Nat} {xs : Nat → Int32} {M M1 : Nat → Nat → Int32} {x y z u : Int32} {S K : Nat → Nat → Nat} {hk : Bool} {n : Nat} {T : Nat → Nat} {Z : Nat → stZ} {a b c i j k l r s t w q p nn bz : Nat} {v : stZ} {f : Nat → Int32}
theorem c_X3_holdHour (hs : s < 4) (hW : WF S) (hn : nn ≤ 3) (hp : p + 3 * nn ≤ 24) (hC : RepC M 2 S) (hB : KB M 5) (hf : ∀ i, i < 24 → M (46 + 2 * s) i = f i) : ∃ M1, RepC M1 2 (if hq S f nn p 0 = true then hpf f nn p S else S) ∧ KB M1 5 ∧ frC M M1 ∧ ∀ d Q, Go (d + 3) 76 0 [some (.ref 2), some (.ref (46 + 2 * s)), some (.int (nI p)), some (.int (nI nn)), none, none, none, none] [] (HP lx xs M) Q = Q (some (.int (bI (hq S f nn p 0)))) (HP lx xs M1) := by
  obtain ⟨M1, r1, r2, r3⟩ := ll_X3_holdHour (lx := lx) (xs := xs) (S := S) (f := f) hs hW hn hp nn 0 0 M none none (by omega) (by decide) hC hf (fun i hi => by omega)
  rw [show p + 3 * 0 = p by omega] at r2 r3
  by_cases h : hq S f nn p 0 = true
  · obtain ⟨s1, o4, o5, o6, o7, s2⟩ := r2 h
    obtain ⟨M2, t1, t2, t3, t4⟩ := ll_X3_hold2 (lx := lx) (xs := xs) (f := f) hn hp nn 0 S M1 (by omega) hW (RepC_eq hC fun c q1 q2 => r1 c (by omega)) (fun i hi => by rw [r1 5 (by decide)]; exact hB i hi) s1 (fun i _ hi => hq_ok nn p 0 h i hi)
    rw [show p + 3 * 0 = p by omega] at t1
    refine ⟨M2, by rw [if_pos h]; exact t1, t2, fun c hc => (t3 c (by unfold prC at hc; omega) (by unfold prC at hc; omega) (by unfold prC at hc; omega)).trans (r1 c (by unfold prC at hc; omega)), fun d Q => ?_⟩
    rw [h]
    have s3 := s2 (d + 1) Q
    simp only [Nat.add_assoc, Nat.reduceAdd] at s3
    simp only [s_76_0, s_76_1, s_76_3, s_76_4]
    rw [s3]
    simp only [s_76_117, s_76_118]
    exact t4 d Q _ _ _ _ _
  · rw [Bool.not_eq_true] at h
    refine ⟨M1, by rw [if_neg (by rw [h]; simp)]; exact RepC_eq hC fun c q1 q2 => r1 c (by omega), fun i hi => by rw [r1 5 (by decide)]; exact hB i hi, fun c hc => r1 c (by unfold prC at hc; omega), fun d Q => ?_⟩
    rw [h]
    have s3 := r3 h (d + 1) Q
    simp only [Nat.add_assoc, Nat.reduceAdd] at s3
    simp only [s_76_0, s_76_1, s_76_3, s_76_4]
    rw [s3]
    rfl
theorem op_hour (hA : WA S hk K n T Z) : opA 39 168 [some (.ref 1), some (.int x), some (.int y), some (.int z), some (.int u), none, none] [some (.ref 53), some (.int x), some (.int y), some (.int z), some (.int u), none, none, none, none, none, none, none] S hk K n T Z := by
  have hW := hA.1
  have w1 := hW.1
  have c1 : (u < nI 1) = (u.toInt < 1) := x_ln u (by decide)
  have c3 : (nI 3 < u) = (3 < u.toInt) := x_nl u (by decide)
  have i13 : ∀ d h Q, Go d 114 0 [some (.long u.toInt64), none, some (.long (lN 1)), none, some (.long (lN 3)), none] [] h Q = Q (some (.int (bI (decide (1 ≤ u.toInt ∧ u.toInt ≤ 3))))) h := fun d h Q => in_ab u 1 3 (by decide) (by decide) d h Q
  by_cases h1 : isr x 4 = true
  · by_cases h2 : isr y 3 = true
    · by_cases h3 : 1 ≤ u.toInt ∧ u.toInt ≤ 3
      · have d1 : (u < nI 1) = False := by rw [c1]; exact eq_false (by omega)
        have d3 : (nI 3 < u) = False := by rw [c3]; exact eq_false (by omega)
        rw [decide_eq_true h3] at i13
        obtain ⟨nn, hnn, hn3, rfl⟩ : ∃ nn, 1 ≤ nn ∧ nn ≤ 3 ∧ u = nI nn := by
          obtain ⟨j, hj, rfl⟩ := nI_of (x := u) (by rw [x_l0]; omega)
          rw [i_int hj] at h3
          exact ⟨j, by omega, by omega, rfl⟩
        obtain ⟨s, hs, -, rfl⟩ := isr_of h1
        obtain ⟨l, hl, -, rfl⟩ := isr_of h2
        have hv := hA.2.2.2.2 s hs
        by_cases h4 : rfz (Z s) (nI l) z (nI (3 * nn)) = nI 0
        · obtain ⟨l0, w, f, e1, e2, e3⟩ := rfz_cases h4
          obtain ⟨b0, b1⟩ := hv l0 w f e1
          obtain ⟨p, hp, rfl⟩ := hold_of (by omega) e3 b1
          have hq1 : ∀ i, i < nn → hq S f nn p 0 = true → okT S f (p + 3 * i) ∧ f (p + 3 * i) = nI (ia f (p + 3 * i)) ∧ f (p + 3 * i + 1) = nI (ia f (p + 3 * i + 1)) ∧ f (p + 3 * i + 2) = nI (ia f (p + 3 * i + 2)) := fun i hi hh => by
            obtain ⟨g0, g1, g2, -⟩ := tg_of (hq_tg nn p 0 hh i hi)
            exact ⟨hq_ok nn p 0 hh i hi, g0, g1, g2⟩
          refine ⟨if hq S f nn p 0 = true then nI nn else -2, if hq S f nn p 0 = true then hpf f nn p S else S, hk, K, n, T, Z, ⟨?_, hA.2⟩, fun lx xs M hR => ?_, fun lx xs M hR => ?_⟩
          · split
            · rename_i hh; exact hpf_WF nn p S hW (fun i hi => hq_ok nn p 0 hh i hi)
            · exact hW
          · have hz := hR.2.2.2.2.2.2 s hs
            have hz' := hz
            rw [e1] at hz
            obtain ⟨g0, g1, g2⟩ := hz
            rw [show 45 + 2 * s + 1 = 46 + 2 * s by omega] at g2
            obtain ⟨M1, r1, r2, r3, r4⟩ := c_X3_holdHour (lx := lx) (xs := xs) (p := p) hs hW hn3 (by omega) hR.1 hR.2.1 g2
            refine ⟨M1, RepAC_fr hR r1 r2 r3, fun c hc => r3 c (by unfold prC; omega), fun Q => ?_⟩
            have rf : ∀ d Q, Go (d + 1) 3 0 [some (.ref (45 + 2 * s)), some (.int (nI l)), some (.int (nI p)), some (.int (nI (3 * nn)))] [] (HP lx xs M) Q = Q (some (.int (nI 0))) (HP lx xs M) := fun d Q => by rw [c_X5_refusal (by omega) hz' hv, h4]
            have r5 := r4 1995
            simp only [Nat.reduceAdd] at r5
            rcases (by omega : s = 0 ∨ s = 1 ∨ s = 2 ∨ s = 3) with rfl | rfl | rfl | rfl <;> simp only [Nat.reduceMul, Nat.reduceAdd] at rf r5 ⊢ <;> simp (disch := omega) only [s_39_0, s_39_1, s_39_4, s_39_7, s_39_8, s_39_11, s_39_14, s_39_16, s_39_17, s_39_20, s_39_22, s_39_23, s_39_26, s_39_27, s_39_28, s_39_29, s_39_32, s_39_33_0, s_39_33_1, s_39_33_2, s_39_33_3, s_39_34, s_39_36, s_39_38, s_39_39, s_39_40, s_39_41, s_39_43, s_39_44_45, s_39_44_47, s_39_44_49, s_39_44_51, s_39_47, s_39_49, s_39_51, s_39_54, s_39_56, s_39_57, s_39_58, s_39_61, s_39_63_45, s_39_63_47, s_39_63_49, s_39_63_51, s_39_66, s_39_67, s_39_69, s_39_72, s_39_75, s_39_77, s_39_80, s_39_82, ↓reduceIte, c_X6_isSheet, c_X6_isLane, ap_some, h1, h2, bI_0, Bool.true_eq_false, d1, d3, i_mul, rf, n0_0, r5] <;> cases hq S f nn p 0 <;> simp
          · have hz := hR.2.2.2.2.2 s hs
            have hz' := hz
            rw [e1] at hz
            obtain ⟨g0, g1, g2⟩ := hz
            have z0 : (nI 0 < 0) = False := by decide
            have rf : ∀ d Q, Go (d + 1) 166 0 [some (.ref 53), some (.int (nI s)), some (.int (nI l)), some (.int (nI p)), some (.int (nI (3 * nn)))] [] (HP lx xs M) Q = Q (some (.int (nI 0))) (HP lx xs M) := fun d Q => by rw [c_X7_lacksRow hs hz' hv hl (by omega), h4]
            have st : ∀ Q, Go 1999 168 0 [some (.ref 53), some (.int (nI s)), some (.int (nI l)), some (.int (nI p)), some (.int (nI nn)), none, none, none, none, none, none, none] [] (HP lx xs M) Q = Go 1999 168 58 [some (.ref 53), some (.int (nI s)), some (.int (nI l)), some (.int (nI p)), some (.int (nI nn)), some (.int (nI 0)), some (.int (nI (24 * s + p))), some (.int (nI 0)), some (.int (nI 0)), none, none, none] [] (HP lx xs M) Q := fun Q => by
              simp (disch := omega) only [s_168_0, s_168_1, s_168_2, s_168_5, s_168_8, s_168_10, s_168_11, s_168_12, s_168_15, s_168_18, s_168_21, s_168_22, s_168_23, s_168_24, s_168_25, s_168_26, s_168_27, s_168_28, s_168_30, s_168_31, s_168_34, s_168_36, s_168_38, s_168_41, s_168_43, s_168_44, s_168_46, s_168_47, s_168_48, s_168_49, s_168_50, s_168_52, s_168_53, s_168_55, s_168_56, ↓reduceIte, c_X7_isSheet, ap_some, h1, h2, Bool.and_self, bI_0, Bool.true_eq_false, i13, i_mul, i_add, rf, z0]
            obtain ⟨q1, q2⟩ := ll_X7_hour (p := p) (lx := lx) (xs := xs) (o5 := some (.int (nI 0))) (o1 := some (.int (nI s))) (o2 := some (.int (nI l))) (o3 := some (.int (nI p))) hs hW hR.1 g2 hn3 (by omega) nn 0 0 none none none (by omega) (by decide)
            rw [show p + 3 * 0 = p by omega] at q1 q2
            by_cases hh : hq S f nn p 0 = true
            · obtain ⟨o7, o8, o9, o10, o11, q3⟩ := q1 hh
              obtain ⟨M1, t1, t2, t3⟩ := ll_X7_hour2 (p := p) (lx := lx) (xs := xs) (f := f) (o5 := some (.int (nI 0))) (o1 := some (.int (nI s))) (o2 := some (.int (nI l))) (o3 := some (.int (nI p))) hs hn3 (by omega) nn 0 S M (by omega) hW hR.1 g2 (fun i _ hi => hq1 i hi hh)
              rw [show p + 3 * 0 = p by omega] at t1
              refine ⟨M1, by rw [if_pos hh]; exact RepAM_fr hR t1 t2, t2.1, fun Q => ?_⟩
              have q4 := q3 1996
              have t4 := t3 1996
              simp only [Nat.reduceAdd] at q4 t4
              rw [st, q4, if_pos hh]
              simp only [s_168_186, s_168_187]
              rw [t4]
            · rw [Bool.not_eq_true] at hh
              refine ⟨M, by rw [if_neg (by rw [hh]; simp)]; exact hR, fun _ _ => rfl, fun Q => ?_⟩
              have q4 := q2 hh 1996
              simp only [Nat.reduceAdd] at q4
              rw [st, q4, if_neg (by rw [hh]; simp)]
        · obtain ⟨n1, n2⟩ := rfz_neg h4
          refine opA_same (rfz (Z s) (nI l) z (nI (3 * nn))) hA (fun lx xs M hR Q => ?_) (fun lx xs M hR Q => ?_)
          · have hz := hR.2.2.2.2.2.2 s hs
            have rf : ∀ d Q, Go (d + 1) 3 0 [some (.ref (45 + 2 * s)), some (.int (nI l)), some (.int z), some (.int (nI (3 * nn)))] [] (HP lx xs M) Q = Q (some (.int (rfz (Z s) (nI l) z (nI (3 * nn))))) (HP lx xs M) := fun d Q => by rw [c_X5_refusal (by omega) hz hv]
            rcases (by omega : s = 0 ∨ s = 1 ∨ s = 2 ∨ s = 3) with rfl | rfl | rfl | rfl <;> simp only [Nat.reduceMul, Nat.reduceAdd] at rf ⊢ <;> simp (disch := omega) only [s_39_0, s_39_1, s_39_4, s_39_7, s_39_8, s_39_11, s_39_14, s_39_16, s_39_17, s_39_20, s_39_22, s_39_23, s_39_26, s_39_27, s_39_28, s_39_29, s_39_32, s_39_33_0, s_39_33_1, s_39_33_2, s_39_33_3, s_39_34, s_39_36, s_39_38, s_39_39, s_39_40, s_39_41, s_39_43, s_39_44_45, s_39_44_47, s_39_44_49, s_39_44_51, s_39_47, s_39_49, s_39_51, s_39_54, s_39_56, ↓reduceIte, c_X6_isSheet, c_X6_isLane, ap_some, h1, h2, bI_0, Bool.true_eq_false, d1, d3, i_mul, rf, n2]
          · have hz := hR.2.2.2.2.2 s hs
            simp (disch := omega) only [s_168_0, s_168_1, s_168_2, s_168_5, s_168_8, s_168_10, s_168_11, s_168_12, s_168_15, s_168_18, s_168_21, s_168_22, s_168_23, s_168_24, s_168_25, s_168_26, s_168_27, s_168_28, s_168_30, s_168_31, s_168_34, s_168_36, s_168_38, s_168_41, s_168_43, ↓reduceIte, c_X7_isSheet, ap_some, h1, h2, Bool.and_self, bI_0, Bool.true_eq_false, i13, i_mul, c_X7_lacksRow hs hz hv hl (by omega : 3 * nn ≤ 24), n1]
      · rw [decide_eq_false h3] at i13
        refine opA_same (-1) hA (fun lx xs M hR Q => ?_) (fun lx xs M hR Q => ?_)
        · by_cases h5 : u.toInt < 1
          · have d1 : (u < nI 1) = True := by rw [c1]; exact eq_true h5
            simp (disch := omega) only [s_39_0, s_39_1, s_39_4, s_39_7, s_39_8, s_39_11, s_39_14, s_39_16, s_39_17, s_39_20, s_39_22, s_39_23, s_39_26, s_39_27, ↓reduceIte, c_X6_isSheet, c_X6_isLane, ap_some, h1, h2, bI_0, Bool.true_eq_false, d1]
          · have d1 : (u < nI 1) = False := by rw [c1]; exact eq_false h5
            have d3 : (nI 3 < u) = True := by rw [c3]; exact eq_true (by omega)
            simp (disch := omega) only [s_39_0, s_39_1, s_39_4, s_39_7, s_39_8, s_39_11, s_39_14, s_39_16, s_39_17, s_39_20, s_39_22, s_39_23, s_39_26, s_39_27, ↓reduceIte, c_X6_isSheet, c_X6_isLane, ap_some, h1, h2, bI_0, Bool.true_eq_false, d1, d3]
        · simp (disch := omega) only [s_168_0, s_168_1, s_168_2, s_168_5, s_168_8, s_168_10, s_168_11, s_168_12, s_168_15, s_168_18, s_168_21, s_168_22, ↓reduceIte, c_X7_isSheet, ap_some, h1, h2, Bool.and_self, bI_0, Bool.true_eq_false, i13]
    · rw [Bool.not_eq_true] at h2
      refine opA_same (-1) hA (fun lx xs M hR Q => ?_) (fun lx xs M hR Q => ?_)
      · simp (disch := omega) only [s_39_0, s_39_1, s_39_4, s_39_7, s_39_8, s_39_11, s_39_14, s_39_16, s_39_17, s_39_20, s_39_22, s_39_23, s_39_26, s_39_27, ↓reduceIte, c_X6_isSheet, c_X6_isLane, ap_some, h1, h2, bI_0, Bool.true_eq_false]
      · simp (disch := omega) only [s_168_0, s_168_1, s_168_2, s_168_5, s_168_8, s_168_10, s_168_11, s_168_12, s_168_15, s_168_18, s_168_21, s_168_22, ↓reduceIte, c_X7_isSheet, ap_some, h1, h2, Bool.and_false, bI_0]
  · rw [Bool.not_eq_true] at h1
    refine opA_same (-1) hA (fun lx xs M hR Q => ?_) (fun lx xs M hR Q => ?_)
    · simp (disch := omega) only [s_39_0, s_39_1, s_39_4, s_39_7, s_39_8, s_39_11, s_39_14, s_39_16, s_39_17, s_39_20, s_39_22, s_39_23, s_39_26, s_39_27, ↓reduceIte, c_X6_isSheet, ap_some, h1, bI_0]
    · simp (disch := omega) only [s_168_0, s_168_1, s_168_2, s_168_5, s_168_8, s_168_10, s_168_11, s_168_12, s_168_15, s_168_18, s_168_21, s_168_22, ↓reduceIte, c_X7_isSheet, ap_some, h1, Bool.false_and, bI_0]
end HP2
