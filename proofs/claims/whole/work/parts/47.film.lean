/-! film, copy: class and reference alike -/
theorem nrw_small {l a : Nat} (ha : a ≤ 97) : nrw l (nI a) = nI a := by
  have h : ∀ a, a < 98 → (nI a).toInt8.toInt32 = nI a ∧ (nI a).toInt16.toInt32 = nI a := by decide +kernel
  unfold nrw
  split
  · exact (h a (by omega)).1
  · split
    · exact (h a (by omega)).2
    · rfl
section FI
variable {d : Nat} {Q : Option Value → ex_H → Prop} {lx : Nat} {xs : Nat → Int32} {M M1 : Nat → Nat → Int32} {x y z u x1 x2 x3 x4 x5 : Int32} {S K : Nat → Nat → Nat} {hk : Bool} {n : Nat} {T : Nat → Nat} {Z : Nat → stZ} {a b c i j k l r s t w q p : Nat} {v : stZ} {o6 : Option Value}
theorem l_X6_film (hs : s < 4) (hW : WF S) (hC : RepC M 2 S) (h0 : M (45 + 2 * s) 0 = nI l) (hl : l < 3) (ht : t < 4) (hp : p + S 0 0 ≤ 24) (hj : j < S 0 0) : Go (d + 2) 40 59 [some (.ref 1), some (.int (nI t)), some (.int (nI s)), some (.int (nI l)), some (.int (nI p)), some (.ref (45 + 2 * s)), o6, some (.int (nI j))] [] (HP lx xs (upr M (45 + 2 * s + 1) (rng (M (45 + 2 * s + 1)) (fun k => nI (S 2 ((k - p) * 4 + t))) p j))) Q = Go (d + 2) 40 59 [some (.ref 1), some (.int (nI t)), some (.int (nI s)), some (.int (nI l)), some (.int (nI p)), some (.ref (45 + 2 * s)), o6, some (.int (nI (j + 1)))] [] (HP lx xs (upr M (45 + 2 * s + 1) (rng (M (45 + 2 * s + 1)) (fun k => nI (S 2 ((k - p) * 4 + t))) p (j + 1)))) Q := by
  have w1 := hW.1
  obtain ⟨c1, c2, c3, c4, c5, c6, c7, c8, c9, c10, c11, c12⟩ := hC
  simp only [Nat.reduceAdd] at c5
  have e5 := c5 (j * 4 + t) (by omega)
  have w5 := hW.2.2.2.2.1 (j * 4 + t) (by omega)
  have e0 : upr M (45 + 2 * s + 1) (rng (M (45 + 2 * s + 1)) (fun k => nI (S 2 ((k - p) * 4 + t))) p j) (45 + 2 * s) 0 = nI l := by rw [upr_ne _ _ (by omega)]; exact h0
  have e1 : upr M (45 + 2 * s + 1) (rng (M (45 + 2 * s + 1)) (fun k => nI (S 2 ((k - p) * 4 + t))) p j) 2 0 = nI (S 0 0) := by rw [upr_ne _ _ (by omega)]; exact c1
  have e4 : upr M (45 + 2 * s + 1) (rng (M (45 + 2 * s + 1)) (fun k => nI (S 2 ((k - p) * 4 + t))) p j) 4 (j * 4 + t) = nI (S 2 (j * 4 + t)) := by rw [upr_ne _ _ (by omega)]; exact e5
  have pt : ∀ d Q, Go d 6 0 [some (.ref (45 + 2 * s)), some (.int (nI (p + j))), some (.int (nI (S 2 (j * 4 + t))))] [] (HP lx xs (upr M (45 + 2 * s + 1) (rng (M (45 + 2 * s + 1)) (fun k => nI (S 2 ((k - p) * 4 + t))) p j))) Q = Q none (HP lx xs (upr M (45 + 2 * s + 1) (rng (M (45 + 2 * s + 1)) (fun k => nI (S 2 ((k - p) * 4 + t))) p (j + 1)))) := fun d Q => by
    rw [c_X5_put (by omega) e0 hl (by omega), nrw_small w5, up_upr, ← rng_up, show p + j - p = j by omega]
  generalize upr M (45 + 2 * s + 1) (rng (M (45 + 2 * s + 1)) (fun k => nI (S 2 ((k - p) * 4 + t))) p j) = N at *
  generalize upr M (45 + 2 * s + 1) (rng (M (45 + 2 * s + 1)) (fun k => nI (S 2 ((k - p) * 4 + t))) p (j + 1)) = N1 at *
  rw [s_40_59]
  rcases (by omega : s = 0 ∨ s = 1 ∨ s = 2 ∨ s = 3) with rfl | rfl | rfl | rfl <;> simp only [Nat.reduceMul, Nat.reduceAdd] at pt e0 ⊢ <;> simp (disch := omega) only [s_40_61, s_40_62, s_40_65, s_40_68, s_40_71, s_40_73, s_40_75, s_40_77, s_40_78, s_40_79, s_40_82, s_40_84, s_40_85, s_40_88_45, s_40_88_47, s_40_88_49, s_40_88_51, s_40_91, s_40_94, ↓reduceIte, e1, i_lt, hj, i_add, c_X3_saying, ap_some, ap_none, e4, pt]
theorem l_X7_film (hs : s < 4) (hW : WF S) (hC : RepM M S) (hl : l < 3) (ht : t < 4) (hp : p + S 0 0 ≤ 24) (hj : j < S 0 0) : Go d 169 42 [some (.ref 53), some (.int (nI t)), some (.int (nI s)), some (.int (nI l)), some (.int (nI p)), o6, some (.int (nI j))] [] (HP lx xs (upr M 74 (rng (M 74) (fun k => nI (S 2 ((k - (24 * s + p)) * 4 + t))) (24 * s + p) j))) Q = Go d 169 42 [some (.ref 53), some (.int (nI t)), some (.int (nI s)), some (.int (nI l)), some (.int (nI p)), o6, some (.int (nI (j + 1)))] [] (HP lx xs (upr M 74 (rng (M 74) (fun k => nI (S 2 ((k - (24 * s + p)) * 4 + t))) (24 * s + p) (j + 1)))) Q := by
  have w1 := hW.1
  obtain ⟨c1, c2, c3, c4, c5, c6, c7, c8, c9⟩ := hC
  have e5 := c5 (4 * j + t) (by omega)
  rw [s_169_42]
  simp (disch := omega) only [s_169_44, s_169_45, s_169_48, s_169_51, s_169_52, s_169_55, s_169_57, s_169_58, s_169_59, s_169_61, s_169_62, s_169_64, s_169_65, s_169_66, s_169_69, s_169_70, s_169_72, s_169_73, s_169_74, s_169_75, s_169_76, s_169_77, s_169_80, ↓reduceIte, upr_ne, c1, i_lt, hj, i_add, i_mul, i_in, i_cl, true_and, e5, up_upr]
  rw [← rng_up, show 24 * s + p + j - (24 * s + p) = j by omega, Nat.mul_comm 4 j]
theorem op_film (hA : WA S hk K n T Z) : opA 40 169 [some (.ref 1), some (.int x), some (.int y), some (.int z), some (.int u), none, none, none] [some (.ref 53), some (.int x), some (.int y), some (.int z), some (.int u), none, none] S hk K n T Z := by
  have hW := hA.1
  have w1 := hW.1
  by_cases h0 : isr x 4 = true
  · by_cases h1 : isr y 4 = true
    · by_cases h2 : isr z 3 = true
      · obtain ⟨t, ht, -, rfl⟩ := isr_of h0
        obtain ⟨s, hs, -, rfl⟩ := isr_of h1
        obtain ⟨l, hl, -, rfl⟩ := isr_of h2
        have hv := hA.2.2.2.2 s hs
        by_cases h3 : rfz (Z s) (nI l) u (nI (S 0 0)) = nI 0
        · obtain ⟨l0, w, f, e1, e2, e3⟩ := rfz_cases h3
          obtain ⟨b0, b1⟩ := hv l0 w f e1
          have e4 : l0 = l := by rw [i_eq (by omega) (by omega)] at e2; exact e2
          subst e4
          obtain ⟨p, hp, rfl⟩ := hold_of (by omega) e3 b1
          refine ⟨nI (S 0 0), S, hk, K, n, T, setZ Z s (some (l0, w, rng f (fun k => nI (S 2 ((k - p) * 4 + t))) p (S 0 0))), WA_set hA (fun l2 z2 f2 h => by cases h; exact ⟨hl, b1⟩), fun lx xs M hR => ?_, fun lx xs M hR => ?_⟩
          · have hz := hR.2.2.2.2.2.2 s hs
            have hz' := hz
            rw [e1] at hz
            obtain ⟨g0, g1, g2⟩ := hz
            refine ⟨upr M (45 + 2 * s + 1) (rng (M (45 + 2 * s + 1)) (fun k => nI (S 2 ((k - p) * 4 + t))) p (S 0 0)), RepAC_Z hR (fun c hc => upr_ne _ _ (by omega)) (ZC_set hR.2.2.2.2.2.2 (fun c q1 q2 => upr_ne _ _ (by omega)) ⟨?_, ?_, fun i hi => ?_⟩), fun c hc => upr_ne _ _ (by omega), fun Q => ?_⟩
            · rw [upr_ne _ _ (by omega)]; exact g0
            · rw [upr_ne _ _ (by omega)]; exact g1
            · rw [upr_eq]
              by_cases e : p ≤ i ∧ i < p + S 0 0
              · rw [rng_in e, rng_in e]
              · rw [rng_out e, rng_out e]; exact g2 i hi
            · have c1 := hR.1.1
              have rf : ∀ d Q, Go (d + 1) 3 0 [some (.ref (45 + 2 * s)), some (.int (nI l0)), some (.int (nI p)), some (.int (nI (S 0 0)))] [] (HP lx xs M) Q = Q (some (.int (nI 0))) (HP lx xs M) := fun d Q => by rw [c_X5_refusal (by omega) hz' hv, h3]
              have lp := loopN (fun j => Go 1999 40 59 [some (.ref 1), some (.int (nI t)), some (.int (nI s)), some (.int (nI l0)), some (.int (nI p)), some (.ref (45 + 2 * s)), some (.int (nI 0)), some (.int (nI j))] [] (HP lx xs (upr M (45 + 2 * s + 1) (rng (M (45 + 2 * s + 1)) (fun k => nI (S 2 ((k - p) * 4 + t))) p j))) Q) (S 0 0) (fun j hj => l_X6_film (d := 1997) hs hW hR.1 g0 hl ht (by omega) hj)
              try dsimp only at lp
              rw [rng_0, upr_self] at lp
              have st : Go 1999 40 0 [some (.ref 1), some (.int (nI t)), some (.int (nI s)), some (.int (nI l0)), some (.int (nI p)), none, none, none] [] (HP lx xs M) Q = Go 1999 40 59 [some (.ref 1), some (.int (nI t)), some (.int (nI s)), some (.int (nI l0)), some (.int (nI p)), some (.ref (45 + 2 * s)), some (.int (nI 0)), some (.int (nI 0))] [] (HP lx xs M) Q := by
                rcases (by omega : s = 0 ∨ s = 1 ∨ s = 2 ∨ s = 3) with rfl | rfl | rfl | rfl <;> simp only [Nat.reduceMul, Nat.reduceAdd] at rf ⊢ <;> simp (disch := omega) only [s_40_0, s_40_1, s_40_4, s_40_7, s_40_8, s_40_11, s_40_14, s_40_15, s_40_18, s_40_21, s_40_22, s_40_23, s_40_24, s_40_27, s_40_28_0, s_40_28_1, s_40_28_2, s_40_28_3, s_40_29, s_40_31, s_40_33, s_40_34, s_40_36, s_40_37, s_40_40, s_40_43_45, s_40_43_47, s_40_43_49, s_40_43_51, s_40_46, s_40_48, s_40_50, s_40_53, s_40_55, s_40_56, s_40_57, ↓reduceIte, c_X6_isThing, c_X6_isSheet, c_X6_isLane, rf, c1, ap_some, ap_none, h0, h1, h2, bI_0, Bool.true_eq_false, n0_0]
              rw [st, lp, s_40_59]
              have e1 : upr M (45 + 2 * s + 1) (rng (M (45 + 2 * s + 1)) (fun k => nI (S 2 ((k - p) * 4 + t))) p (S 0 0)) 2 0 = nI (S 0 0) := by rw [upr_ne _ _ (by omega)]; exact c1
              simp (disch := omega) only [s_40_61, s_40_62, s_40_65, s_40_68, s_40_97, s_40_98, s_40_101, s_40_104, ↓reduceIte, e1, i_lt, Nat.lt_irrefl]
          · have hz := hR.2.2.2.2.2 s hs
            have hz' := hz
            rw [e1] at hz
            obtain ⟨g0, g1, g2⟩ := hz
            refine ⟨upr M 74 (rng (M 74) (fun k => nI (S 2 ((k - (24 * s + p)) * 4 + t))) (24 * s + p) (S 0 0)), RepAM_Z hR (fun c hc => upr_ne _ _ (by omega)) (ZM_set hR.2.2.2.2.2 (fun q hq => by rw [upr_ne _ _ (by omega)]) (fun q hq => by rw [upr_ne _ _ (by omega)]) (fun q hq => by rw [upr_eq, rng_out (by omega)]) ⟨?_, ?_, fun i hi => ?_⟩), fun c hc => upr_ne _ _ (by omega), fun Q => ?_⟩
            · rw [upr_ne _ _ (by omega)]; exact g0
            · rw [upr_ne _ _ (by omega)]; exact g1
            · rw [upr_eq]
              by_cases e : p ≤ i ∧ i < p + S 0 0
              · rw [rng_in (by omega), rng_in e, show 24 * s + i - (24 * s + p) = i - p by omega]
              · rw [rng_out (by omega), rng_out e]; exact g2 i hi
            · have c1 := hR.1.1
              have rf : ∀ d Q, Go (d + 1) 166 0 [some (.ref 53), some (.int (nI s)), some (.int (nI l0)), some (.int (nI p)), some (.int (nI (S 0 0)))] [] (HP lx xs M) Q = Q (some (.int (nI 0))) (HP lx xs M) := fun d Q => by rw [c_X7_lacksRow hs hz' hv hl (by omega), h3]
              have z0 : (nI 0 < 0) = False := by decide
              have lp := loopN (fun j => Go 1999 169 42 [some (.ref 53), some (.int (nI t)), some (.int (nI s)), some (.int (nI l0)), some (.int (nI p)), some (.int (nI 0)), some (.int (nI j))] [] (HP lx xs (upr M 74 (rng (M 74) (fun k => nI (S 2 ((k - (24 * s + p)) * 4 + t))) (24 * s + p) j))) Q) (S 0 0) (fun j hj => l_X7_film hs hW hR.1 hl ht (by omega) hj)
              try dsimp only at lp
              rw [rng_0, upr_self] at lp
              simp (disch := omega) only [s_169_0, s_169_1, s_169_4, s_169_7, s_169_8, s_169_9, s_169_12, s_169_15, s_169_16, s_169_17, s_169_18, s_169_19, s_169_20, s_169_22, s_169_23, s_169_26, s_169_29, s_169_31, s_169_33, s_169_36, s_169_38, s_169_39, s_169_40, ↓reduceIte, c_X7_isThing, c_X7_isSheet, rf, z0, c1, ap_some, h0, h1, h2, Bool.and_self, bI_0, Bool.true_eq_false]
              rw [lp, s_169_42]
              simp (disch := omega) only [s_169_44, s_169_45, s_169_48, s_169_83, s_169_84, s_169_87, ↓reduceIte, upr_ne, c1, i_lt, Nat.lt_irrefl]
        · obtain ⟨n1, n2⟩ := rfz_neg h3
          refine opA_same (rfz (Z s) (nI l) u (nI (S 0 0))) hA (fun lx xs M hR Q => ?_) (fun lx xs M hR Q => ?_)
          · have hz := hR.2.2.2.2.2.2 s hs
            have c1 := hR.1.1
            have rf : ∀ d Q, Go (d + 1) 3 0 [some (.ref (45 + 2 * s)), some (.int (nI l)), some (.int u), some (.int (nI (S 0 0)))] [] (HP lx xs M) Q = Q (some (.int (rfz (Z s) (nI l) u (nI (S 0 0))))) (HP lx xs M) := fun d Q => by rw [c_X5_refusal (by omega) hz hv]
            rcases (by omega : s = 0 ∨ s = 1 ∨ s = 2 ∨ s = 3) with rfl | rfl | rfl | rfl <;> simp only [Nat.reduceMul, Nat.reduceAdd] at rf ⊢ <;> simp (disch := omega) only [s_40_0, s_40_1, s_40_4, s_40_7, s_40_8, s_40_11, s_40_14, s_40_15, s_40_18, s_40_21, s_40_22, s_40_23, s_40_24, s_40_27, s_40_28_0, s_40_28_1, s_40_28_2, s_40_28_3, s_40_29, s_40_31, s_40_33, s_40_34, s_40_36, s_40_37, s_40_40, s_40_43_45, s_40_43_47, s_40_43_49, s_40_43_51, s_40_46, s_40_48, s_40_50, s_40_53, s_40_55, ↓reduceIte, c_X6_isThing, c_X6_isSheet, c_X6_isLane, rf, c1, ap_some, h0, h1, h2, bI_0, Bool.true_eq_false, n2]
          · have hz := hR.2.2.2.2.2 s hs
            have c1 := hR.1.1
            simp (disch := omega) only [s_169_0, s_169_1, s_169_4, s_169_7, s_169_8, s_169_9, s_169_12, s_169_15, s_169_16, s_169_17, s_169_18, s_169_19, s_169_20, s_169_22, s_169_23, s_169_26, s_169_29, s_169_31, s_169_33, s_169_36, s_169_38, ↓reduceIte, c_X7_isThing, c_X7_isSheet, c1, c_X7_lacksRow hs hz hv hl (by omega : S 0 0 ≤ 24), ap_some, h0, h1, h2, Bool.and_self, bI_0, Bool.true_eq_false, n1]
      · rw [Bool.not_eq_true] at h2
        refine opA_same (-1) hA (fun lx xs M hR Q => ?_) (fun lx xs M hR Q => ?_)
        · simp (disch := omega) only [s_40_0, s_40_1, s_40_4, s_40_7, s_40_8, s_40_11, s_40_14, s_40_15, s_40_18, s_40_21, s_40_22, ↓reduceIte, c_X6_isThing, c_X6_isSheet, c_X6_isLane, ap_some, h0, h1, h2, bI_0, Bool.true_eq_false]
        · simp (disch := omega) only [s_169_0, s_169_1, s_169_4, s_169_7, s_169_8, s_169_9, s_169_12, s_169_15, s_169_16, ↓reduceIte, c_X7_isThing, c_X7_isSheet, ap_some, h0, h1, h2, Bool.and_false, bI_0, Bool.true_eq_false]
    · rw [Bool.not_eq_true] at h1
      refine opA_same (-1) hA (fun lx xs M hR Q => ?_) (fun lx xs M hR Q => ?_)
      · simp (disch := omega) only [s_40_0, s_40_1, s_40_4, s_40_7, s_40_8, s_40_11, s_40_14, s_40_15, s_40_18, s_40_21, s_40_22, ↓reduceIte, c_X6_isThing, c_X6_isSheet, ap_some, h0, h1, bI_0, Bool.true_eq_false]
      · simp (disch := omega) only [s_169_0, s_169_1, s_169_4, s_169_7, s_169_8, s_169_9, s_169_12, s_169_15, s_169_16, ↓reduceIte, c_X7_isThing, c_X7_isSheet, ap_some, h0, h1, Bool.false_and, bI_0, Bool.true_eq_false]
  · rw [Bool.not_eq_true] at h0
    refine opA_same (-1) hA (fun lx xs M hR Q => ?_) (fun lx xs M hR Q => ?_)
    · simp (disch := omega) only [s_40_0, s_40_1, s_40_4, s_40_7, s_40_8, s_40_11, s_40_14, s_40_15, s_40_18, s_40_21, s_40_22, ↓reduceIte, c_X6_isThing, ap_some, h0, bI_0]
    · simp (disch := omega) only [s_169_0, s_169_1, s_169_4, s_169_7, s_169_8, s_169_9, s_169_12, s_169_15, s_169_16, ↓reduceIte, c_X7_isThing, ap_some, h0, bI_0]
end FI
