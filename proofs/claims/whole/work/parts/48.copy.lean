/-! copy: class and reference alike -/
theorem hs_sh {lx : Nat} {xs : Nat → Int32} {M : Nat → Nat → Int32} {f : Nat → Int32} {b : Nat} (hb : b < 4) : (HP lx xs M).set (46 + 2 * b) (.inl (0, 24, f)) = HP lx xs (upr M (46 + 2 * b) f) := by
  rcases (by omega : b = 0 ∨ b = 1 ∨ b = 2 ∨ b = 3) with rfl | rfl | rfl | rfl
  · exact hs_46
  · exact hs_48
  · exact hs_50
  · exact hs_52
theorem hp_sh {lx : Nat} {xs : Nat → Int32} {M : Nat → Nat → Int32} {b : Nat} (hb : b < 4) : (HP lx xs M)[46 + 2 * b]? = some (.inl (0, 24, M (46 + 2 * b))) := by
  rcases (by omega : b = 0 ∨ b = 1 ∨ b = 2 ∨ b = 3) with rfl | rfl | rfl | rfl <;> rfl
theorem upr_of {N : Nat → Nat → Int32} {c : Nat} {f : Nat → Int32} (h : N c = f) : upr N c f = N := by rw [← h, upr_self]
section CP
variable {d : Nat} {L : ex_L} {Q : Option Value → ex_H → Prop} {lx : Nat} {xs : Nat → Int32} {M M1 : Nat → Nat → Int32} {x y z u x1 x2 x3 x4 x5 : Int32} {S K : Nat → Nat → Nat} {hk : Bool} {n : Nat} {T : Nat → Nat} {Z : Nat → stZ} {a b c i j k l r s t w q p : Nat} {v : stZ} {o6 : Option Value}
theorem cp_row (ha : a < 4) (hb : b < 4) (hi : i + w ≤ 24) (hj : j + w ≤ 24) : Go (d + 1) 44 108 L [.int (nI w), .int (nI j), .ref (46 + 2 * b), .int (nI i), .ref (46 + 2 * a)] (HP lx xs M) Q = Go (d + 1) 44 111 L [] (HP lx xs (upr M (46 + 2 * b) (va_cpy (M (46 + 2 * a)) (M (46 + 2 * b)) i j w))) Q := by
  have c1 : (nI i).toNatClampNeg = i := i_cl (by omega)
  have c2 : (nI j).toNatClampNeg = j := i_cl (by omega)
  have c3 : (nI w).toNatClampNeg = w := i_cl (by omega)
  have h := go_cp (d := d) (k := 44) (pc := 108) (L := L) (Q := Q) (st := []) (h := HP lx xs M) (n := nI w) (dp := nI j) (sp := nI i) (a0 := 46 + 2 * a) (a1 := 46 + 2 * b) (v := 0) rfl (hp_sh ha) (hp_sh hb) (by omega) (by omega) ⟨nI_pos (by omega), nI_pos (by omega), nI_pos (by omega), by rw [c1, c3]; omega, by rw [c2, c3]; omega⟩ (by decide) (hs_sh hb)
  rw [c1, c2, c3] at h
  exact h
theorem hold_l {z0 : Nat} (hz : z0 ≤ 24) (h5 : ¬ x5 < 0) : decide ((lN 0).toInt ≤ x.toInt64.toInt ∧ x.toInt64.toInt ≤ ((nI z0).toInt64 - x5.toInt64).toInt) = hold x x5 z0 := by
  unfold hold
  have h1 := Int32.toInt_lt x5
  rw [x_l0] at h5
  rw [Int64.toInt_sub, Int32.toInt_toInt64, Int32.toInt_toInt64, Int32.toInt_toInt64, lN_toInt (by decide : 0 < 2 ^ 31), i_int (by omega), Int.bmod_eq_of_le (by omega) (by omega)]
  congr 1
  apply propext
  constructor <;> intro h <;> omega
theorem hold_neg {z0 : Nat} (h5 : x5 < 0) : hold x x5 z0 = false := by
  unfold hold
  rw [x_l0] at h5
  exact decide_eq_false (by omega)
theorem op_copy (hA : WA S hk K n T Z) : opA 44 170 [some (.ref 1), some (.int x1), some (.int x2), some (.int x3), some (.int x4), some (.int x5), none, none] [some (.ref 53), some (.int x1), some (.int x2), some (.int x3), some (.int x4), some (.int x5), none] S hk K n T Z := by
  by_cases h1 : isr x1 4 = true
  · by_cases h2 : isr x3 4 = true
    · obtain ⟨a, ha, -, rfl⟩ := isr_of h1
      obtain ⟨b, hb, -, rfl⟩ := isr_of h2
      match hv : Z a with
      | none =>
        refine opA_same (-11) hA (fun lx xs M hR Q => ?_) (fun lx xs M hR Q => ?_)
        · have hz := hR.2.2.2.2.2.2 a ha
          rw [hv] at hz
          have e : M (45 + 2 * a) 1 = -1 := hz
          rcases (by omega : a = 0 ∨ a = 1 ∨ a = 2 ∨ a = 3) with rfl | rfl | rfl | rfl <;> rcases (by omega : b = 0 ∨ b = 1 ∨ b = 2 ∨ b = 3) with rfl | rfl | rfl | rfl <;> simp only [Nat.reduceMul, Nat.reduceAdd] at e <;> simp (disch := omega) only [s_44_0, s_44_1, s_44_4, s_44_7, s_44_8, s_44_11, s_44_14, s_44_15, s_44_16, s_44_17, s_44_20, s_44_21_0, s_44_21_1, s_44_21_2, s_44_21_3, s_44_22, s_44_24, s_44_25, s_44_28, s_44_29_0, s_44_29_1, s_44_29_2, s_44_29_3, s_44_30, s_44_32, s_44_34_45, s_44_34_47, s_44_34_49, s_44_34_51, s_44_37, s_44_40, s_44_42_45, s_44_42_47, s_44_42_49, s_44_42_51, s_44_45, s_44_48, s_44_50, ↓reduceIte, c_X6_isSheet, c_X5_isMissing, ap_some, h1, h2, bI_0, Bool.true_eq_false, e, m1_l0, decide_true]
        · have hz := hR.2.2.2.2.2 a ha
          rw [hv] at hz
          have e : M 72 a = -1 := hz
          simp (disch := omega) only [s_170_0, s_170_1, s_170_2, s_170_3, s_170_6, s_170_9, s_170_12, s_170_13, s_170_14, s_170_15, s_170_18, s_170_21, s_170_24, s_170_25, s_170_26, s_170_27, s_170_30, s_170_31, s_170_32, s_170_35, s_170_36, s_170_39, s_170_40, s_170_41, s_170_44, s_170_46, ↓reduceIte, in_isr, Nat.reduceAdd, ap_some, h1, h2, bI_0, Bool.true_eq_false, i_in, i_cl, true_and, e, m1_l0]
      | some (la, za, fa) =>
        obtain ⟨a0, a1⟩ := hA.2.2.2.2 a ha la za fa hv
        match hv2 : Z b with
        | none =>
          refine opA_same (-11) hA (fun lx xs M hR Q => ?_) (fun lx xs M hR Q => ?_)
          · have hz := hR.2.2.2.2.2.2 a ha
            rw [hv] at hz
            obtain ⟨e0, e1, e2⟩ := hz
            have hz := hR.2.2.2.2.2.2 b hb
            rw [hv2] at hz
            have e : M (45 + 2 * b) 1 = -1 := hz
            rcases (by omega : a = 0 ∨ a = 1 ∨ a = 2 ∨ a = 3) with rfl | rfl | rfl | rfl <;> rcases (by omega : b = 0 ∨ b = 1 ∨ b = 2 ∨ b = 3) with rfl | rfl | rfl | rfl <;> simp only [Nat.reduceMul, Nat.reduceAdd] at e e1 <;> first | (rw [hv] at hv2; cases hv2; done) | simp (disch := omega) only [s_44_0, s_44_1, s_44_4, s_44_7, s_44_8, s_44_11, s_44_14, s_44_15, s_44_16, s_44_17, s_44_20, s_44_21_0, s_44_21_1, s_44_21_2, s_44_21_3, s_44_22, s_44_24, s_44_25, s_44_28, s_44_29_0, s_44_29_1, s_44_29_2, s_44_29_3, s_44_30, s_44_32, s_44_34_45, s_44_34_47, s_44_34_49, s_44_34_51, s_44_37, s_44_40, s_44_42_45, s_44_42_47, s_44_42_49, s_44_42_51, s_44_45, s_44_48, s_44_50, ↓reduceIte, c_X6_isSheet, c_X5_isMissing, ap_some, h1, h2, bI_0, Bool.true_eq_false, e, e1, m1_l0, i_l0, decide_true, decide_false]
          · have hz := hR.2.2.2.2.2 a ha
            rw [hv] at hz
            obtain ⟨e0, e1, e2⟩ := hz
            have hz := hR.2.2.2.2.2 b hb
            rw [hv2] at hz
            have e : M 72 b = -1 := hz
            simp (disch := omega) only [s_170_0, s_170_1, s_170_2, s_170_3, s_170_6, s_170_9, s_170_12, s_170_13, s_170_14, s_170_15, s_170_18, s_170_21, s_170_24, s_170_25, s_170_26, s_170_27, s_170_30, s_170_31, s_170_32, s_170_35, s_170_36, s_170_39, s_170_40, s_170_41, s_170_44, s_170_46, ↓reduceIte, in_isr, Nat.reduceAdd, ap_some, h1, h2, bI_0, Bool.true_eq_false, i_in, i_cl, true_and, e, e0, i_l0, m1_l0]
        | some (lb, zb, fb) =>
          obtain ⟨b0, b1⟩ := hA.2.2.2.2 b hb lb zb fb hv2
          have hab : a = b → la = lb := fun e => by subst e; rw [hv] at hv2; cases hv2; rfl
          -- up to the lanes
          have s6 : ∀ lx xs M, RepAC M S hk K n T Z → ∀ Q, Go 1999 44 0 [some (.ref 1), some (.int (nI a)), some (.int x2), some (.int (nI b)), some (.int x4), some (.int x5), none, none] [] (HP lx xs M) Q = if la = lb then (if hold x2 x5 za = true ∧ hold x4 x5 zb = true then Go 1999 44 108 [some (.ref 1), some (.int (nI a)), some (.int x2), some (.int (nI b)), some (.int x4), some (.int x5), some (.ref (45 + 2 * a)), some (.ref (45 + 2 * b))] [.int x5, .int x4, .ref (46 + 2 * b), .int x2, .ref (46 + 2 * a)] (HP lx xs M) Q else Q (some (.int (-13))) (HP lx xs M)) else Q (some (.int (-12))) (HP lx xs M) := by
            intro lx xs M hR Q
            have hz := hR.2.2.2.2.2.2 a ha
            rw [hv] at hz
            obtain ⟨e0, e1, e2⟩ := hz
            have hz := hR.2.2.2.2.2.2 b hb
            rw [hv2] at hz
            obtain ⟨f0, f1, f2⟩ := hz
            have ha' : ∀ d Q, Go d 2 0 [some (.ref (45 + 2 * a)), some (.int x2), some (.int x5)] [] (HP lx xs M) Q = Q (some (.int (bI (hold x2 x5 za)))) (HP lx xs M) := fun d Q => c_X5_holds (by omega) e1 a1
            have hb' : ∀ d Q, Go d 2 0 [some (.ref (45 + 2 * b)), some (.int x4), some (.int x5)] [] (HP lx xs M) Q = Q (some (.int (bI (hold x4 x5 zb)))) (HP lx xs M) := fun d Q => c_X5_holds (by omega) f1 b1
            have ma : ∀ d Q, Go d 1 0 [some (.ref (45 + 2 * a))] [] (HP lx xs M) Q = Q (some (.int (nI 0))) (HP lx xs M) := fun d Q => by rw [c_X5_isMissing (by omega), e1, decide_eq_false (nI_pos (by omega))]; rfl
            have mb : ∀ d Q, Go d 1 0 [some (.ref (45 + 2 * b))] [] (HP lx xs M) Q = Q (some (.int (nI 0))) (HP lx xs M) := fun d Q => by rw [c_X5_isMissing (by omega), f1, decide_eq_false (nI_pos (by omega))]; rfl
            rcases (by omega : a = 0 ∨ a = 1 ∨ a = 2 ∨ a = 3) with rfl | rfl | rfl | rfl <;> rcases (by omega : b = 0 ∨ b = 1 ∨ b = 2 ∨ b = 3) with rfl | rfl | rfl | rfl <;> simp only [Nat.reduceMul, Nat.reduceAdd] at e0 f0 ha' hb' ma mb ⊢ <;> simp (disch := omega) only [s_44_0, s_44_1, s_44_4, s_44_7, s_44_8, s_44_11, s_44_14, s_44_15, s_44_16, s_44_17, s_44_20, s_44_21_0, s_44_21_1, s_44_21_2, s_44_21_3, s_44_22, s_44_24, s_44_25, s_44_28, s_44_29_0, s_44_29_1, s_44_29_2, s_44_29_3, s_44_30, s_44_32, s_44_34_45, s_44_34_47, s_44_34_49, s_44_34_51, s_44_37, s_44_40, s_44_42_45, s_44_42_47, s_44_42_49, s_44_42_51, s_44_45, s_44_48, s_44_50, s_44_51, s_44_53_45, s_44_53_47, s_44_53_49, s_44_53_51, s_44_56, s_44_58_45, s_44_58_47, s_44_58_49, s_44_58_51, s_44_61, s_44_64, s_44_66, s_44_67, s_44_69, s_44_70, s_44_72_45, s_44_72_47, s_44_72_49, s_44_72_51, s_44_75, s_44_78, s_44_80, s_44_82, s_44_84_45, s_44_84_47, s_44_84_49, s_44_84_51, s_44_87, s_44_90, s_44_92, s_44_93, s_44_95_45, s_44_95_47, s_44_95_49, s_44_95_51, s_44_98, s_44_99, s_44_101_45, s_44_101_47, s_44_101_49, s_44_101_51, s_44_104, s_44_106, ↓reduceIte, c_X6_isSheet, ap_some, h1, h2, bI_0, Bool.true_eq_false, ma, mb, n0_0, e0, f0, ha', hb', i_eq] <;> (cases hold x2 x5 za <;> cases hold x4 x5 zb <;> simp) <;> (intro h; exact absurd (hab rfl) h)
          have s7 : ∀ lx xs M, RepAM M S hk K n T Z → ∀ Q, Go 1999 170 0 [some (.ref 53), some (.int (nI a)), some (.int x2), some (.int (nI b)), some (.int x4), some (.int x5), none] [] (HP lx xs M) Q = if la = lb then (if hold x2 x5 za = true ∧ hold x4 x5 zb = true then Go 1999 170 114 [some (.ref 53), some (.int (nI a)), some (.int x2), some (.int (nI b)), some (.int x4), some (.int x5), none] [] (HP lx xs M) Q else Q (some (.int (-13))) (HP lx xs M)) else Q (some (.int (-12))) (HP lx xs M) := by
            intro lx xs M hR Q
            have hz := hR.2.2.2.2.2 a ha
            rw [hv] at hz
            obtain ⟨e0, e1, e2⟩ := hz
            have hz := hR.2.2.2.2.2 b hb
            rw [hv2] at hz
            obtain ⟨f0, f1, f2⟩ := hz
            by_cases h5 : x5 < 0
            · rw [hold_neg h5, hold_neg h5]
              simp (disch := omega) only [s_170_0, s_170_1, s_170_2, s_170_3, s_170_6, s_170_9, s_170_12, s_170_13, s_170_14, s_170_15, s_170_18, s_170_21, s_170_24, s_170_25, s_170_26, s_170_27, s_170_30, s_170_31, s_170_32, s_170_35, s_170_36, s_170_39, s_170_40, s_170_41, s_170_44, s_170_46, s_170_47, s_170_48, s_170_51, s_170_52, s_170_53, s_170_54, s_170_57, s_170_58, s_170_59, s_170_62, s_170_64, s_170_65, s_170_67, s_170_70, s_170_71, s_170_72, s_170_73, s_170_74, s_170_77, s_170_78, s_170_79, s_170_80, s_170_82, s_170_83, s_170_84, s_170_87, s_170_90, s_170_92, s_170_93, s_170_94, s_170_95, s_170_98, s_170_99, s_170_100, s_170_101, s_170_103, s_170_104, s_170_105, s_170_108, s_170_111, s_170_113, ↓reduceIte, in_isr, Nat.reduceAdd, ap_some, h1, h2, bI_0, Bool.true_eq_false, Bool.false_eq_true, false_and, i_in, i_cl, true_and, e0, f0, i_l0, i_eq, h5]
            · have k1 : ∀ d Q, Go d 114 0 [some (.long x2.toInt64), none, some (.long (lN 0)), none, some (.long ((nI za).toInt64 - x5.toInt64)), none] [] (HP lx xs M) Q = Q (some (.int (bI (hold x2 x5 za)))) (HP lx xs M) := fun d Q => by rw [c_X7_in, hold_l a1 h5]
              have k2 : ∀ d Q, Go d 114 0 [some (.long x4.toInt64), none, some (.long (lN 0)), none, some (.long ((nI zb).toInt64 - x5.toInt64)), none] [] (HP lx xs M) Q = Q (some (.int (bI (hold x4 x5 zb)))) (HP lx xs M) := fun d Q => by rw [c_X7_in, hold_l b1 h5]
              simp (disch := omega) only [s_170_0, s_170_1, s_170_2, s_170_3, s_170_6, s_170_9, s_170_12, s_170_13, s_170_14, s_170_15, s_170_18, s_170_21, s_170_24, s_170_25, s_170_26, s_170_27, s_170_30, s_170_31, s_170_32, s_170_35, s_170_36, s_170_39, s_170_40, s_170_41, s_170_44, s_170_46, s_170_47, s_170_48, s_170_51, s_170_52, s_170_53, s_170_54, s_170_57, s_170_58, s_170_59, s_170_62, s_170_64, s_170_65, s_170_67, s_170_70, s_170_71, s_170_72, s_170_73, s_170_74, s_170_77, s_170_78, s_170_79, s_170_80, s_170_82, s_170_83, s_170_84, s_170_87, s_170_90, s_170_92, s_170_93, s_170_94, s_170_95, s_170_98, s_170_99, s_170_100, s_170_101, s_170_103, s_170_104, s_170_105, s_170_108, s_170_111, s_170_113, ↓reduceIte, in_isr, Nat.reduceAdd, ap_some, h1, h2, bI_0, Bool.true_eq_false, i_in, i_cl, true_and, e0, f0, e1, f1, i_l0, i_eq, h5, k1, k2]
              cases hold x2 x5 za <;> cases hold x4 x5 zb <;> simp
          by_cases hl : la = lb
          · subst hl
            by_cases hh : hold x2 x5 za = true ∧ hold x4 x5 zb = true
            · simp only [hh, and_self, ↓reduceIte] at s6 s7
              have h5 : ¬ x5 < 0 := fun q => by rw [hold_neg q] at hh; cases hh.1
              obtain ⟨w, hw, rfl⟩ := nI_of h5
              obtain ⟨i, hi, rfl⟩ := hold_of hw hh.1 a1
              obtain ⟨j, hj, rfl⟩ := hold_of hw hh.2 b1
              refine ⟨nI w, S, hk, K, n, T, setZ Z b (some (la, zb, va_cpy fa fb i j w)), WA_set hA (fun l2 z2 f2 h => by cases h; exact ⟨a0, b1⟩), fun lx xs M hR => ?_, fun lx xs M hR => ?_⟩
              · have hz := hR.2.2.2.2.2.2 a ha
                rw [hv] at hz
                obtain ⟨e0, e1, e2⟩ := hz
                have hz := hR.2.2.2.2.2.2 b hb
                rw [hv2] at hz
                obtain ⟨f0, f1, f2⟩ := hz
                refine ⟨upr M (46 + 2 * b) (va_cpy (M (46 + 2 * a)) (M (46 + 2 * b)) i j w), RepAC_Z hR (fun c hc => upr_ne _ _ (by omega)) (ZC_set hR.2.2.2.2.2.2 (fun c q1 q2 => upr_ne _ _ (by omega)) ⟨?_, ?_, fun k hk => ?_⟩), fun c hc => upr_ne _ _ (by omega), fun Q => ?_⟩
                · rw [upr_ne _ _ (by omega)]; exact f0
                · rw [upr_ne _ _ (by omega)]; exact f1
                · rw [show 45 + 2 * b + 1 = 46 + 2 * b by omega, upr_eq]
                  rw [show 45 + 2 * b + 1 = 46 + 2 * b by omega] at f2
                  rw [show 45 + 2 * a + 1 = 46 + 2 * a by omega] at e2
                  unfold va_cpy
                  by_cases q : j ≤ k ∧ k < j + w
                  · rw [if_pos q, if_pos q]; exact e2 _ (by omega)
                  · rw [if_neg q, if_neg q]; exact f2 k hk
                · rw [s6 lx xs M hR, cp_row ha hb (by omega) (by omega)]
                  simp only [s_44_111, s_44_113]
              · have hz := hR.2.2.2.2.2 a ha
                rw [hv] at hz
                obtain ⟨e0, e1, e2⟩ := hz
                have hz := hR.2.2.2.2.2 b hb
                rw [hv2] at hz
                obtain ⟨f0, f1, f2⟩ := hz
                refine ⟨upr (upr M 75 (mix (M 75) (fun k => M 74 (24 * a + i + k)) w)) 74 (rng (M 74) (fun k => M 74 (24 * a + i + (k - (24 * b + j)))) (24 * b + j) w), RepAM_Z hR (fun c hc => ?_) (ZM_set hR.2.2.2.2.2 (fun q hq => ?_) (fun q hq => ?_) (fun q hq => ?_) ⟨?_, ?_, fun k hk => ?_⟩), fun c hc => ?_, fun Q => ?_⟩
                · rw [upr_ne _ _ (by omega), upr_ne _ _ (by omega)]
                · rw [upr_ne _ _ (by omega), upr_ne _ _ (by omega)]
                · rw [upr_ne _ _ (by omega), upr_ne _ _ (by omega)]
                · rw [upr_eq, rng_out (by omega)]
                · rw [upr_ne _ _ (by omega), upr_ne _ _ (by omega)]; exact f0
                · rw [upr_ne _ _ (by omega), upr_ne _ _ (by omega)]; exact f1
                · rw [upr_eq]
                  unfold va_cpy
                  by_cases q : j ≤ k ∧ k < j + w
                  · rw [if_pos q, rng_in (by omega), show 24 * a + i + (24 * b + k - (24 * b + j)) = 24 * a + (i + (k - j)) by omega]; exact e2 _ (by omega)
                  · rw [if_neg q, rng_out (by omega)]; exact f2 k hk
                · rw [upr_ne _ _ (by omega), upr_ne _ _ (by omega)]
                · rw [s7 lx xs M hR]
                  simp only [s_170_114, s_170_115]
                  have l1 := loopN (fun m => Go 1999 170 117 [some (.ref 53), some (.int (nI a)), some (.int (nI i)), some (.int (nI b)), some (.int (nI j)), some (.int (nI w)), some (.int (nI m))] [] (HP lx xs (upr M 75 (mix (M 75) (fun k => M 74 (24 * a + i + k)) m))) Q) w fun m hm => by
                    show Go 1999 _ 117 _ _ _ _ = Go 1999 _ 117 _ _ _ _
                    rw [s_170_117]
                    simp (disch := omega) only [s_170_119, s_170_121, s_170_124, s_170_125, s_170_128, s_170_130, s_170_131, s_170_134, s_170_136, s_170_137, s_170_138, s_170_139, s_170_140, s_170_142, s_170_143, s_170_144, s_170_145, s_170_148, ↓reduceIte, i_lt, hm, i_mul, i_add, i_in, i_cl, true_and, upr_ne, up_upr]
                    rw [mix_up (g := fun k => M 74 (24 * a + i + k))]
                  try dsimp only at l1
                  rw [mix_0, upr_self] at l1
                  rw [l1, s_170_117]
                  simp (disch := omega) only [s_170_119, s_170_121, s_170_151, s_170_152, ↓reduceIte, i_lt, Nat.lt_irrefl]
                  have l2 := loopN (fun m => Go 1999 170 154 [some (.ref 53), some (.int (nI a)), some (.int (nI i)), some (.int (nI b)), some (.int (nI j)), some (.int (nI w)), some (.int (nI m))] [] (HP lx xs (upr (upr M 75 (mix (M 75) (fun k => M 74 (24 * a + i + k)) w)) 74 (rng (M 74) (fun k => M 74 (24 * a + i + (k - (24 * b + j)))) (24 * b + j) m))) Q) w fun m hm => by
                    show Go 1999 _ 154 _ _ _ _ = Go 1999 _ 154 _ _ _ _
                    rw [s_170_154]
                    simp (disch := omega) only [s_170_156, s_170_158, s_170_161, s_170_162, s_170_165, s_170_167, s_170_168, s_170_169, s_170_171, s_170_172, s_170_174, s_170_175, s_170_176, s_170_179, s_170_181, s_170_182, s_170_183, s_170_186, ↓reduceIte, i_lt, hm, i_mul, i_add, i_in, i_cl, true_and, upr_ne, upr_eq, mix_lt, up_upr]
                    rw [← rng_up, show 24 * b + j + m - (24 * b + j) = m by omega]
                  try dsimp only at l2
                  rw [rng_0, show upr (upr M 75 (mix (M 75) (fun k => M 74 (24 * a + i + k)) w)) 74 (M 74) = upr M 75 (mix (M 75) (fun k => M 74 (24 * a + i + k)) w) from upr_of (upr_ne _ _ (by decide))] at l2
                  rw [l2, s_170_154]
                  simp (disch := omega) only [s_170_156, s_170_158, s_170_189, s_170_191, ↓reduceIte, i_lt, Nat.lt_irrefl]
            · simp only [hh, ↓reduceIte] at s6 s7
              exact opA_same (-13) hA s6 s7
          · simp only [hl, ↓reduceIte] at s6 s7
            exact opA_same (-12) hA s6 s7
    · rw [Bool.not_eq_true] at h2
      refine opA_same (-1) hA (fun lx xs M hR Q => ?_) (fun lx xs M hR Q => ?_)
      · simp (disch := omega) only [s_44_0, s_44_1, s_44_4, s_44_7, s_44_8, s_44_11, s_44_14, s_44_15, ↓reduceIte, c_X6_isSheet, ap_some, h1, h2, bI_0, Bool.true_eq_false]
      · simp (disch := omega) only [s_170_0, s_170_1, s_170_2, s_170_3, s_170_6, s_170_9, s_170_12, s_170_13, s_170_14, s_170_15, s_170_18, s_170_21, s_170_24, s_170_25, ↓reduceIte, in_isr, Nat.reduceAdd, ap_some, h1, h2, bI_0, Bool.true_eq_false]
  · rw [Bool.not_eq_true] at h1
    refine opA_same (-1) hA (fun lx xs M hR Q => ?_) (fun lx xs M hR Q => ?_)
    · simp (disch := omega) only [s_44_0, s_44_1, s_44_4, s_44_7, s_44_8, s_44_11, s_44_14, s_44_15, ↓reduceIte, c_X6_isSheet, ap_some, h1, bI_0]
    · simp (disch := omega) only [s_170_0, s_170_1, s_170_2, s_170_3, s_170_6, s_170_9, s_170_12, s_170_13, s_170_14, s_170_15, s_170_18, s_170_21, s_170_24, s_170_25, ↓reduceIte, in_isr, Nat.reduceAdd, ap_some, h1, bI_0]
end CP
