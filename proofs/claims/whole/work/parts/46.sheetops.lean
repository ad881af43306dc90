/-! sheet, drop, item, film, copy: class and reference alike -/
section SO
variable {d : Nat} {Q : Option Value → ex_H → Prop} {lx : Nat} {xs : Nat → Int32} {M M1 : Nat → Nat → Int32} {x y z u x1 x2 x3 x4 x5 : Int32} {S K : Nat → Nat → Nat} {hk : Bool} {n : Nat} {T : Nat → Nat} {Z : Nat → stZ} {a b c i j k l r s t w q : Nat} {v : stZ}
theorem op_drop (hA : WA S hk K n T Z) : opA 42 165 [some (.ref 1), some (.int x), none, none] [some (.ref 53), some (.int x)] S hk K n T Z := by
  by_cases h1 : isr x 4 = true
  · obtain ⟨s, hs, -, rfl⟩ := isr_of h1
    match hv : Z s with
    | none =>
      refine opA_same (-11) hA (fun lx xs M hR Q => ?_) (fun lx xs M hR Q => ?_)
      · have hz := hR.2.2.2.2.2.2 s hs
        rw [hv] at hz
        have e : M (45 + 2 * s) 1 = -1 := hz
        rcases (by omega : s = 0 ∨ s = 1 ∨ s = 2 ∨ s = 3) with rfl | rfl | rfl | rfl <;> simp only [Nat.reduceMul, Nat.reduceAdd] at e <;> simp (disch := omega) only [s_42_0, s_42_1, s_42_4, s_42_7, s_42_8, s_42_9, s_42_10, s_42_13, s_42_14_0, s_42_14_1, s_42_14_2, s_42_14_3, s_42_15, s_42_16, s_42_17_45, s_42_17_47, s_42_17_49, s_42_17_51, s_42_20, s_42_23, s_42_25, s_42_26, s_42_27_45, s_42_27_47, s_42_27_49, s_42_27_51, s_42_30, s_42_31, s_42_32_45, s_42_32_47, s_42_32_49, s_42_32_51, s_42_35, s_42_36, ↓reduceIte, c_X6_isSheet, c_X5_isMissing, ap_some, h1, bI_0, Bool.true_eq_false, e, m1_l0, decide_true]
      · have hz := hR.2.2.2.2.2 s hs
        rw [hv] at hz
        have e : M 72 s = -1 := hz
        simp (disch := omega) only [s_165_0, s_165_1, s_165_2, s_165_3, s_165_6, s_165_9, s_165_12, s_165_13, s_165_14, s_165_15, s_165_18, s_165_19, s_165_20, s_165_23, s_165_25, s_165_26, s_165_27, s_165_30, s_165_31, s_165_32, s_165_33, s_165_34, s_165_37, s_165_38, s_165_39, ↓reduceIte, in_isr, Nat.reduceAdd, ap_some, h1, bI_0, Bool.true_eq_false, i_in, i_cl, true_and, e, m1_l0]
    | some (l, w, f) =>
      obtain ⟨b0, b1⟩ := hA.2.2.2.2 s hs l w f hv
      refine ⟨nI w, S, hk, K, n, T, setZ Z s none, WA_set hA (fun _ _ _ h => by cases h), fun lx xs M hR => ?_, fun lx xs M hR => ?_⟩
      · have hz := hR.2.2.2.2.2.2 s hs
        rw [hv] at hz
        obtain ⟨e0, e1, e2⟩ := hz
        refine ⟨up M (45 + 2 * s) 1 (-1), RepAC_Z hR (fun c hc => up_ne _ _ _ (by omega)) (ZC_set hR.2.2.2.2.2.2 (fun c h1 h2 => up_ne _ _ _ h1) up_at), fun c hc => up_ne _ _ _ (by omega), fun Q => ?_⟩
        rcases (by omega : s = 0 ∨ s = 1 ∨ s = 2 ∨ s = 3) with rfl | rfl | rfl | rfl <;> simp only [Nat.reduceMul, Nat.reduceAdd] at e1 ⊢ <;> simp (disch := omega) only [s_42_0, s_42_1, s_42_4, s_42_7, s_42_8, s_42_9, s_42_10, s_42_13, s_42_14_0, s_42_14_1, s_42_14_2, s_42_14_3, s_42_15, s_42_16, s_42_17_45, s_42_17_47, s_42_17_49, s_42_17_51, s_42_20, s_42_23, s_42_25, s_42_26, s_42_27_45, s_42_27_47, s_42_27_49, s_42_27_51, s_42_30, s_42_31, s_42_32_45, s_42_32_47, s_42_32_49, s_42_32_51, s_42_35, s_42_36, s_5_0, s_5_1, s_5_2_45, s_5_2_47, s_5_2_49, s_5_2_51, s_5_5, ↓reduceIte, c_X6_isSheet, c_X5_isMissing, ap_some, ap_none, h1, bI_0, Bool.true_eq_false, e1, i_l0, decide_false]
      · have hz := hR.2.2.2.2.2 s hs
        rw [hv] at hz
        obtain ⟨e0, e1, e2⟩ := hz
        refine ⟨up M 72 s (-1), RepAM_Z hR (fun c hc => up_ne _ _ _ (by omega)) (ZM_set hR.2.2.2.2.2 (fun q hq => up_off hq) (fun q hq => by rw [up_ne _ _ _ (by decide)]) (fun q hq => by rw [up_ne _ _ _ (by decide)]) up_at), fun c hc => up_ne _ _ _ (by omega), fun Q => ?_⟩
        simp (disch := omega) only [s_165_0, s_165_1, s_165_2, s_165_3, s_165_6, s_165_9, s_165_12, s_165_13, s_165_14, s_165_15, s_165_18, s_165_19, s_165_20, s_165_23, s_165_25, s_165_26, s_165_27, s_165_30, s_165_31, s_165_32, s_165_33, s_165_34, s_165_37, s_165_38, s_165_39, ↓reduceIte, in_isr, Nat.reduceAdd, ap_some, h1, bI_0, Bool.true_eq_false, i_in, i_cl, true_and, e0, i_l0, up_ne, e1]
  · rw [Bool.not_eq_true] at h1
    refine opA_same (-1) hA (fun lx xs M hR Q => ?_) (fun lx xs M hR Q => ?_)
    · simp (disch := omega) only [s_42_0, s_42_1, s_42_4, s_42_7, s_42_8, s_42_9, s_42_10, s_42_13, s_42_14_0, s_42_14_1, s_42_14_2, s_42_14_3, s_42_15, s_42_16, s_42_17_45, s_42_17_47, s_42_17_49, s_42_17_51, s_42_20, s_42_23, s_42_25, s_42_26, s_42_27_45, s_42_27_47, s_42_27_49, s_42_27_51, s_42_30, s_42_31, s_42_32_45, s_42_32_47, s_42_32_49, s_42_32_51, s_42_35, s_42_36, ↓reduceIte, c_X6_isSheet, ap_some, h1, bI_0]
    · simp (disch := omega) only [s_165_0, s_165_1, s_165_2, s_165_3, s_165_6, s_165_9, s_165_12, s_165_13, s_165_14, s_165_15, s_165_18, s_165_19, s_165_20, s_165_23, s_165_25, s_165_26, s_165_27, s_165_30, s_165_31, s_165_32, s_165_33, s_165_34, s_165_37, s_165_38, s_165_39, ↓reduceIte, in_isr, Nat.reduceAdd, ap_some, h1, bI_0]
theorem op_sheet (hA : WA S hk K n T Z) : opA 41 164 [some (.ref 1), some (.int x), some (.int y), some (.int z)] [some (.ref 53), some (.int x), some (.int y), some (.int z), none] S hk K n T Z := by
  by_cases h1 : isr x 4 = true
  · by_cases h2 : isr y 3 = true
    · by_cases h3 : nI 24 < z
      · refine opA_same (-1) hA (fun lx xs M hR Q => ?_) (fun lx xs M hR Q => ?_)
        · simp (disch := omega) only [s_41_0, s_41_1, s_41_4, s_41_7, s_41_8, s_41_11, s_41_14, s_41_15, s_41_17, s_41_20, s_41_21, s_41_22, s_41_23, s_41_26, s_41_28, s_41_29, s_41_30, s_41_33, s_41_34_0, s_41_34_1, s_41_34_2, s_41_34_3, s_41_35, s_41_36, s_41_37_45, s_41_37_47, s_41_37_49, s_41_37_51, s_41_40, s_41_41, ↓reduceIte, c_X6_isSheet, c_X6_isLane, ap_some, h1, h2, bI_0, Bool.true_eq_false, h3]
        · simp (disch := omega) only [s_164_0, s_164_1, s_164_2, s_164_5, s_164_8, s_164_9, s_164_11, s_164_14, s_164_15, s_164_16, s_164_17, s_164_20, s_164_22, s_164_23, s_164_24, s_164_27, s_164_28, s_164_29, s_164_30, s_164_31, s_164_34, s_164_35, s_164_36, s_164_37, s_164_38, s_164_40, s_164_42, s_164_44, s_164_47, s_164_48, s_164_51, s_164_53, s_164_54, s_164_55, s_164_57, s_164_58, s_164_59, s_164_60, s_164_63, s_164_66, s_164_67, ↓reduceIte, c_X7_isSheet, ap_some, h1, h2, Bool.and_self, bI_0, Bool.true_eq_false, h3]
      · by_cases h4 : z < 0
        · refine opA_same (-14) hA (fun lx xs M hR Q => ?_) (fun lx xs M hR Q => ?_)
          · simp (disch := omega) only [s_41_0, s_41_1, s_41_4, s_41_7, s_41_8, s_41_11, s_41_14, s_41_15, s_41_17, s_41_20, s_41_21, s_41_22, s_41_23, s_41_26, s_41_28, s_41_29, s_41_30, s_41_33, s_41_34_0, s_41_34_1, s_41_34_2, s_41_34_3, s_41_35, s_41_36, s_41_37_45, s_41_37_47, s_41_37_49, s_41_37_51, s_41_40, s_41_41, ↓reduceIte, c_X6_isSheet, c_X6_isLane, ap_some, h1, h2, bI_0, Bool.true_eq_false, h3, h4]
          · simp (disch := omega) only [s_164_0, s_164_1, s_164_2, s_164_5, s_164_8, s_164_9, s_164_11, s_164_14, s_164_15, s_164_16, s_164_17, s_164_20, s_164_22, s_164_23, s_164_24, s_164_27, s_164_28, s_164_29, s_164_30, s_164_31, s_164_34, s_164_35, s_164_36, s_164_37, s_164_38, s_164_40, s_164_42, s_164_44, s_164_47, s_164_48, s_164_51, s_164_53, s_164_54, s_164_55, s_164_57, s_164_58, s_164_59, s_164_60, s_164_63, s_164_66, s_164_67, ↓reduceIte, c_X7_isSheet, ap_some, h1, h2, Bool.and_self, bI_0, Bool.true_eq_false, h3, h4]
        · obtain ⟨s, hs, -, rfl⟩ := isr_of h1
          obtain ⟨l, hl, -, rfl⟩ := isr_of h2
          have h4' := h4
          obtain ⟨w, hw, rfl⟩ := nI_of h4
          have hw2 : w ≤ 24 := by rw [i_lt (by omega) hw] at h3; omega
          refine ⟨nI w, S, hk, K, n, T, setZ Z s (some (l, w, fun _ => nI 0)), WA_set hA (fun l2 z2 f2 h => by cases h; exact ⟨hl, hw2⟩), fun lx xs M hR => ?_, fun lx xs M hR => ?_⟩
          · refine ⟨up (up (upr M (45 + 2 * s + 1) (mix (M (45 + 2 * s + 1)) (fun _ => nI 0) 24)) (45 + 2 * s) 0 (nI l)) (45 + 2 * s) 1 (nI w), RepAC_Z hR (fun c hc => ?_) (ZC_set hR.2.2.2.2.2.2 (fun c q1 q2 => ?_) ⟨?_, up_at, fun i hi => ?_⟩), fun c hc => ?_, fun Q => ?_⟩
            · rw [up_ne _ _ _ (by omega), up_ne _ _ _ (by omega), upr_ne _ _ (by omega)]
            · rw [up_ne _ _ _ (by omega), up_ne _ _ _ (by omega), upr_ne _ _ (by omega)]
            · rw [up_off (by decide), up_at]
            · rw [up_ne _ _ _ (by omega), up_ne _ _ _ (by omega), upr_eq, mix_lt hi]
            · rw [up_ne _ _ _ (by omega), up_ne _ _ _ (by omega), upr_ne _ _ (by omega)]
            · rcases (by omega : s = 0 ∨ s = 1 ∨ s = 2 ∨ s = 3) with rfl | rfl | rfl | rfl <;> simp only [Nat.reduceMul, Nat.reduceAdd] <;> simp (disch := omega) only [s_41_0, s_41_1, s_41_4, s_41_7, s_41_8, s_41_11, s_41_14, s_41_15, s_41_17, s_41_20, s_41_21, s_41_22, s_41_23, s_41_26, s_41_28, s_41_29, s_41_30, s_41_33, s_41_34_0, s_41_34_1, s_41_34_2, s_41_34_3, s_41_35, s_41_36, s_41_37_45, s_41_37_47, s_41_37_49, s_41_37_51, s_41_40, s_41_41, ↓reduceIte, c_X6_isSheet, c_X6_isLane, c_X5_renew, ap_some, ap_none, h1, h2, bI_0, Bool.true_eq_false, h3, h4', Nat.reduceAdd]
          · refine ⟨upr (up (up M 72 s (nI l)) 73 s (nI w)) 74 (rng (M 74) (fun _ => nI 0) (24 * s) 24), RepAM_Z hR (fun c hc => ?_) (ZM_set hR.2.2.2.2.2 (fun q hq => ?_) (fun q hq => ?_) (fun q hq => ?_) ⟨?_, ?_, fun i hi => ?_⟩), fun c hc => ?_, fun Q => ?_⟩
            · rw [upr_ne _ _ (by omega), up_ne _ _ _ (by omega), up_ne _ _ _ (by omega)]
            · rw [upr_ne _ _ (by omega), up_ne _ _ _ (by omega), up_off hq]
            · rw [upr_ne _ _ (by omega), up_off hq, up_ne _ _ _ (by omega)]
            · rw [upr_eq, rng_out hq]
            · rw [upr_ne _ _ (by omega), up_ne _ _ _ (by omega), up_at]
            · rw [upr_ne _ _ (by omega), up_at]
            · rw [upr_eq, rng_in (by omega)]
            · rw [upr_ne _ _ (by omega), up_ne _ _ _ (by omega), up_ne _ _ _ (by omega)]
            · simp (disch := omega) only [s_164_0, s_164_1, s_164_2, s_164_5, s_164_8, s_164_9, s_164_11, s_164_14, s_164_15, s_164_16, s_164_17, s_164_20, s_164_22, s_164_23, s_164_24, s_164_27, s_164_28, s_164_29, s_164_30, s_164_31, s_164_34, s_164_35, s_164_36, s_164_37, s_164_38, ↓reduceIte, c_X7_isSheet, ap_some, h1, h2, Bool.and_self, bI_0, Bool.true_eq_false, h3, h4', i_in, i_cl, true_and]
              have lp := loopN (fun j => Go 1999 164 40 [some (.ref 53), some (.int (nI s)), some (.int (nI l)), some (.int (nI w)), some (.int (nI j))] [] (HP lx xs (upr (up (up M 72 s (nI l)) 73 s (nI w)) 74 (rng (M 74) (fun _ => nI 0) (24 * s) j))) Q) 24 fun j hj => by
                show Go 1999 _ 40 _ _ _ _ = Go 1999 _ 40 _ _ _ _
                rw [s_164_40]
                simp (disch := omega) only [s_164_42, s_164_44, s_164_47, s_164_48, s_164_51, s_164_53, s_164_54, s_164_55, s_164_57, s_164_58, s_164_59, s_164_60, s_164_63, ↓reduceIte, i_lt, hj, i_mul, i_add, i_in, i_cl, true_and, up_upr]
                rw [rng_up (g := fun _ => nI 0)]
              try dsimp only at lp
              rw [rng_0, show upr (up (up M 72 s (nI l)) 73 s (nI w)) 74 (M 74) = up (up M 72 s (nI l)) 73 s (nI w) by rw [show M 74 = up (up M 72 s (nI l)) 73 s (nI w) 74 by rw [up_ne _ _ _ (by decide), up_ne _ _ _ (by decide)], upr_self]] at lp
              rw [lp, s_164_40]
              simp (disch := omega) only [s_164_42, s_164_44, s_164_47, s_164_48, s_164_51, s_164_53, s_164_54, s_164_55, s_164_57, s_164_58, s_164_59, s_164_60, s_164_63, s_164_66, s_164_67, ↓reduceIte, i_lt, Nat.lt_irrefl]
    · rw [Bool.not_eq_true] at h2
      refine opA_same (-1) hA (fun lx xs M hR Q => ?_) (fun lx xs M hR Q => ?_)
      · simp (disch := omega) only [s_41_0, s_41_1, s_41_4, s_41_7, s_41_8, s_41_11, s_41_14, s_41_15, s_41_17, s_41_20, s_41_21, s_41_22, s_41_23, s_41_26, s_41_28, s_41_29, s_41_30, s_41_33, s_41_34_0, s_41_34_1, s_41_34_2, s_41_34_3, s_41_35, s_41_36, s_41_37_45, s_41_37_47, s_41_37_49, s_41_37_51, s_41_40, s_41_41, ↓reduceIte, c_X6_isSheet, c_X6_isLane, ap_some, h1, h2, bI_0, Bool.true_eq_false]
      · simp (disch := omega) only [s_164_0, s_164_1, s_164_2, s_164_5, s_164_8, s_164_9, s_164_11, s_164_14, s_164_15, s_164_16, s_164_17, s_164_20, s_164_22, s_164_23, s_164_24, s_164_27, s_164_28, s_164_29, s_164_30, s_164_31, s_164_34, s_164_35, s_164_36, s_164_37, s_164_38, s_164_40, s_164_42, s_164_44, s_164_47, s_164_48, s_164_51, s_164_53, s_164_54, s_164_55, s_164_57, s_164_58, s_164_59, s_164_60, s_164_63, s_164_66, s_164_67, ↓reduceIte, c_X7_isSheet, ap_some, h1, h2, Bool.and_false, bI_0]
  · rw [Bool.not_eq_true] at h1
    refine opA_same (-1) hA (fun lx xs M hR Q => ?_) (fun lx xs M hR Q => ?_)
    · simp (disch := omega) only [s_41_0, s_41_1, s_41_4, s_41_7, s_41_8, s_41_11, s_41_14, s_41_15, s_41_17, s_41_20, s_41_21, s_41_22, s_41_23, s_41_26, s_41_28, s_41_29, s_41_30, s_41_33, s_41_34_0, s_41_34_1, s_41_34_2, s_41_34_3, s_41_35, s_41_36, s_41_37_45, s_41_37_47, s_41_37_49, s_41_37_51, s_41_40, s_41_41, ↓reduceIte, c_X6_isSheet, ap_some, h1, bI_0]
    · simp (disch := omega) only [s_164_0, s_164_1, s_164_2, s_164_5, s_164_8, s_164_9, s_164_11, s_164_14, s_164_15, s_164_16, s_164_17, s_164_20, s_164_22, s_164_23, s_164_24, s_164_27, s_164_28, s_164_29, s_164_30, s_164_31, s_164_34, s_164_35, s_164_36, s_164_37, s_164_38, s_164_40, s_164_42, s_164_44, s_164_47, s_164_48, s_164_51, s_164_53, s_164_54, s_164_55, s_164_57, s_164_58, s_164_59, s_164_60, s_164_63, s_164_66, s_164_67, ↓reduceIte, c_X7_isSheet, ap_some, h1, Bool.false_and, bI_0]
theorem hold_of {w : Nat} (hw : w < 2147483648) (h : hold x (nI w) k = true) (hk : k ≤ 24) : ∃ p, p + w ≤ k ∧ x = nI p := by
  have h := of_decide_eq_true h
  rw [i_int hw] at h
  obtain ⟨p, hp, rfl⟩ := nI_of (x := x) (by rw [x_l0]; omega)
  rw [i_int hp] at h
  exact ⟨p, by omega, rfl⟩
theorem rfz_cases {v : stZ} (h : rfz v u x y = nI 0) : ∃ l w f, v = some (l, w, f) ∧ nI l = u ∧ hold x y w = true := by
  unfold rfz at h
  split at h
  · exact absurd h (by decide)
  · rename_i l w f
    split at h
    · rename_i e
      split at h
      · rename_i e2
        exact ⟨l, w, f, rfl, e, e2⟩
      · exact absurd h (by decide)
    · exact absurd h (by decide)
theorem rfz_neg {v : stZ} (h : ¬ rfz v u x y = nI 0) : (rfz v u x y < 0) = True ∧ (rfz v u x y = 0) = False := by
  refine ⟨?_, eq_false h⟩
  apply eq_true
  unfold rfz at h ⊢
  split
  · decide
  · split
    · rename_i e
      split
      · rename_i e2; simp [e, e2] at h
      · decide
    · decide
theorem op_item (hA : WA S hk K n T Z) : opA 43 167 [some (.ref 1), some (.int x), some (.int y), some (.int z), some (.int u), none, none] [some (.ref 53), some (.int x), some (.int y), some (.int z), some (.int u), none] S hk K n T Z := by
  by_cases h1 : isr x 4 = true
  · by_cases h2 : isr y 3 = true
    · obtain ⟨s, hs, -, rfl⟩ := isr_of h1
      obtain ⟨l, hl, -, rfl⟩ := isr_of h2
      have hv := hA.2.2.2.2 s hs
      by_cases h3 : rfz (Z s) (nI l) z (nI 1) = nI 0
      · obtain ⟨l0, w, f, e1, e2, e3⟩ := rfz_cases h3
        obtain ⟨b0, b1⟩ := hv l0 w f e1
        have e4 : l0 = l := by rw [i_eq (by omega) (by omega)] at e2; exact e2
        subst e4
        obtain ⟨p, hp, rfl⟩ := hold_of (by omega) e3 b1
        have hp2 : p < 24 := by omega
        refine ⟨nI 1, S, hk, K, n, T, setZ Z s (some (l0, w, upd f p (nrw l0 u))), WA_set hA (fun l2 z2 f2 h => by cases h; exact ⟨hl, b1⟩), fun lx xs M hR => ?_, fun lx xs M hR => ?_⟩
        · have hz := hR.2.2.2.2.2.2 s hs
          have hz' := hz
          rw [e1] at hz
          obtain ⟨g0, g1, g2⟩ := hz
          refine ⟨up M (45 + 2 * s + 1) p (nrw l0 u), RepAC_Z hR (fun c hc => up_ne _ _ _ (by omega)) (ZC_set hR.2.2.2.2.2.2 (fun c q1 q2 => up_ne _ _ _ (by omega)) ⟨?_, ?_, fun i hi => ?_⟩), fun c hc => up_ne _ _ _ (by omega), fun Q => ?_⟩
          · rw [up_ne _ _ _ (by omega)]; exact g0
          · rw [up_ne _ _ _ (by omega)]; exact g1
          · by_cases e : i = p
            · subst e; rw [up_at, upd_at]
            · rw [up_off e, upd_off e]; exact g2 i hi
          · have rf : ∀ d Q, Go (d + 1) 3 0 [some (.ref (45 + 2 * s)), some (.int (nI l0)), some (.int (nI p)), some (.int (nI 1))] [] (HP lx xs M) Q = Q (some (.int (nI 0))) (HP lx xs M) := fun d Q => by rw [c_X5_refusal (by omega) hz' hv, h3]
            have pt : ∀ d Q, Go d 6 0 [some (.ref (45 + 2 * s)), some (.int (nI p)), some (.int u)] [] (HP lx xs M) Q = Q none (HP lx xs (up M (45 + 2 * s + 1) p (nrw l0 u))) := fun d Q => c_X5_put (by omega) g0 hl hp2
            rcases (by omega : s = 0 ∨ s = 1 ∨ s = 2 ∨ s = 3) with rfl | rfl | rfl | rfl <;> simp only [Nat.reduceMul, Nat.reduceAdd] at rf pt ⊢ <;> simp (disch := omega) only [s_43_0, s_43_1, s_43_4, s_43_7, s_43_8, s_43_11, s_43_14, s_43_15, s_43_16, s_43_17, s_43_20, s_43_21_0, s_43_21_1, s_43_21_2, s_43_21_3, s_43_22, s_43_24, s_43_26, s_43_27, s_43_28, s_43_29_45, s_43_29_47, s_43_29_49, s_43_29_51, s_43_32, s_43_34, s_43_36, s_43_39, s_43_41, s_43_42, s_43_44, s_43_45, s_43_47_45, s_43_47_47, s_43_47_49, s_43_47_51, s_43_50, s_43_51, ↓reduceIte, c_X6_isSheet, c_X6_isLane, rf, pt, ap_some, ap_none, h1, h2, bI_0, Bool.true_eq_false, n0_0]
        · have hz := hR.2.2.2.2.2 s hs
          have hz' := hz
          rw [e1] at hz
          obtain ⟨g0, g1, g2⟩ := hz
          refine ⟨up M 74 (24 * s + p) (nrw l0 u), RepAM_Z hR (fun c hc => up_ne _ _ _ (by omega)) (ZM_set hR.2.2.2.2.2 (fun q hq => by rw [up_ne _ _ _ (by omega)]) (fun q hq => by rw [up_ne _ _ _ (by omega)]) (fun q hq => up_off (by omega)) ⟨?_, ?_, fun i hi => ?_⟩), fun c hc => up_ne _ _ _ (by omega), fun Q => ?_⟩
          · rw [up_ne _ _ _ (by omega)]; exact g0
          · rw [up_ne _ _ _ (by omega)]; exact g1
          · by_cases e : i = p
            · subst e; rw [up_at, upd_at]
            · rw [up_off (by omega), upd_off e]; exact g2 i hi
          · have rf : ∀ d Q, Go (d + 1) 166 0 [some (.ref 53), some (.int (nI s)), some (.int (nI l0)), some (.int (nI p)), some (.int (nI 1))] [] (HP lx xs M) Q = Q (some (.int (nI 0))) (HP lx xs M) := fun d Q => by rw [c_X7_lacksRow hs hz' hv hl (by omega), h3]
            have z0 : (nI 0 < 0) = False := by decide
            rcases (by omega : l0 = 0 ∨ l0 = 1 ∨ l0 = 2) with rfl | rfl | rfl <;> simp (disch := omega) only [s_167_0, s_167_1, s_167_2, s_167_5, s_167_8, s_167_9, s_167_10, s_167_11, s_167_12, s_167_13, s_167_14, s_167_15, s_167_18, s_167_20, s_167_22, s_167_25, s_167_27, s_167_28, s_167_29, s_167_32, s_167_34, s_167_35, s_167_36, s_167_37, s_167_38, s_167_39, s_167_42, s_167_44, s_167_46, s_167_47, s_167_49, s_167_50, s_167_53, s_167_54, s_167_55, s_167_58, s_167_60, s_167_62, s_167_63, s_167_65, s_167_66, s_167_69, s_167_71, s_167_72, s_167_73, ↓reduceIte, c_X7_isSheet, rf, z0, ap_some, h1, h2, Bool.and_self, bI_0, Bool.true_eq_false, n0_0, n1_0, show (nI 2 = 0) = False by decide, show (nI 2 = nI 1) = False by decide, sh_b, sh_s, i_mul, i_add, i_in, i_cl, true_and, nrw, Nat.reduceEqDiff]
      · obtain ⟨n1, n2⟩ := rfz_neg h3
        refine opA_same (rfz (Z s) (nI l) z (nI 1)) hA (fun lx xs M hR Q => ?_) (fun lx xs M hR Q => ?_)
        · have hz := hR.2.2.2.2.2.2 s hs
          have rf : ∀ d Q, Go (d + 1) 3 0 [some (.ref (45 + 2 * s)), some (.int (nI l)), some (.int z), some (.int (nI 1))] [] (HP lx xs M) Q = Q (some (.int (rfz (Z s) (nI l) z (nI 1)))) (HP lx xs M) := fun d Q => by rw [c_X5_refusal (by omega) hz hv]
          rcases (by omega : s = 0 ∨ s = 1 ∨ s = 2 ∨ s = 3) with rfl | rfl | rfl | rfl <;> simp only [Nat.reduceMul, Nat.reduceAdd] at rf ⊢ <;> simp (disch := omega) only [s_43_0, s_43_1, s_43_4, s_43_7, s_43_8, s_43_11, s_43_14, s_43_15, s_43_16, s_43_17, s_43_20, s_43_21_0, s_43_21_1, s_43_21_2, s_43_21_3, s_43_22, s_43_24, s_43_26, s_43_27, s_43_28, s_43_29_45, s_43_29_47, s_43_29_49, s_43_29_51, s_43_32, s_43_34, s_43_36, s_43_39, s_43_41, s_43_42, s_43_44, s_43_45, s_43_47_45, s_43_47_47, s_43_47_49, s_43_47_51, s_43_50, s_43_51, ↓reduceIte, c_X6_isSheet, c_X6_isLane, rf, ap_some, h1, h2, bI_0, Bool.true_eq_false, n2]
        · have hz := hR.2.2.2.2.2 s hs
          simp (disch := omega) only [s_167_0, s_167_1, s_167_2, s_167_5, s_167_8, s_167_9, s_167_10, s_167_11, s_167_12, s_167_13, s_167_14, s_167_15, s_167_18, s_167_20, s_167_22, s_167_25, s_167_27, s_167_28, s_167_29, s_167_32, s_167_34, s_167_35, s_167_36, s_167_37, s_167_38, s_167_39, s_167_42, s_167_44, s_167_46, s_167_47, s_167_49, s_167_50, s_167_53, s_167_54, s_167_55, s_167_58, s_167_60, s_167_62, s_167_63, s_167_65, s_167_66, s_167_69, s_167_71, s_167_72, s_167_73, ↓reduceIte, c_X7_isSheet, c_X7_lacksRow hs hz hv hl (by omega : 1 ≤ 24), ap_some, h1, h2, Bool.and_self, bI_0, Bool.true_eq_false, n1]
    · rw [Bool.not_eq_true] at h2
      refine opA_same (-1) hA (fun lx xs M hR Q => ?_) (fun lx xs M hR Q => ?_)
      · simp (disch := omega) only [s_43_0, s_43_1, s_43_4, s_43_7, s_43_8, s_43_11, s_43_14, s_43_15, s_43_16, s_43_17, s_43_20, s_43_21_0, s_43_21_1, s_43_21_2, s_43_21_3, s_43_22, s_43_24, s_43_26, s_43_27, s_43_28, s_43_29_45, s_43_29_47, s_43_29_49, s_43_29_51, s_43_32, s_43_34, s_43_36, s_43_39, s_43_41, s_43_42, s_43_44, s_43_45, s_43_47_45, s_43_47_47, s_43_47_49, s_43_47_51, s_43_50, s_43_51, ↓reduceIte, c_X6_isSheet, c_X6_isLane, ap_some, h1, h2, bI_0, Bool.true_eq_false]
      · simp (disch := omega) only [s_167_0, s_167_1, s_167_2, s_167_5, s_167_8, s_167_9, s_167_10, s_167_11, s_167_12, s_167_13, s_167_14, s_167_15, s_167_18, s_167_20, s_167_22, s_167_25, s_167_27, s_167_28, s_167_29, s_167_32, s_167_34, s_167_35, s_167_36, s_167_37, s_167_38, s_167_39, s_167_42, s_167_44, s_167_46, s_167_47, s_167_49, s_167_50, s_167_53, s_167_54, s_167_55, s_167_58, s_167_60, s_167_62, s_167_63, s_167_65, s_167_66, s_167_69, s_167_71, s_167_72, s_167_73, ↓reduceIte, c_X7_isSheet, ap_some, h1, h2, Bool.and_false, bI_0]
  · rw [Bool.not_eq_true] at h1
    refine opA_same (-1) hA (fun lx xs M hR Q => ?_) (fun lx xs M hR Q => ?_)
    · simp (disch := omega) only [s_43_0, s_43_1, s_43_4, s_43_7, s_43_8, s_43_11, s_43_14, s_43_15, s_43_16, s_43_17, s_43_20, s_43_21_0, s_43_21_1, s_43_21_2, s_43_21_3, s_43_22, s_43_24, s_43_26, s_43_27, s_43_28, s_43_29_45, s_43_29_47, s_43_29_49, s_43_29_51, s_43_32, s_43_34, s_43_36, s_43_39, s_43_41, s_43_42, s_43_44, s_43_45, s_43_47_45, s_43_47_47, s_43_47_49, s_43_47_51, s_43_50, s_43_51, ↓reduceIte, c_X6_isSheet, ap_some, h1, bI_0]
    · simp (disch := omega) only [s_167_0, s_167_1, s_167_2, s_167_5, s_167_8, s_167_9, s_167_10, s_167_11, s_167_12, s_167_13, s_167_14, s_167_15, s_167_18, s_167_20, s_167_22, s_167_25, s_167_27, s_167_28, s_167_29, s_167_32, s_167_34, s_167_35, s_167_36, s_167_37, s_167_38, s_167_39, s_167_42, s_167_44, s_167_46, s_167_47, s_167_49, s_167_50, s_167_53, s_167_54, s_167_55, s_167_58, s_167_60, s_167_62, s_167_63, s_167_65, s_167_66, s_167_69, s_167_71, s_167_72, s_167_73, ↓reduceIte, c_X7_isSheet, ap_some, h1, Bool.false_and, bI_0]
end SO
