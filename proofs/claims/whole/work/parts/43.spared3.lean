/-! spared: both alike -/
theorem gd_0 (W X : Nat → Nat) (x : Nat) : gd W X x 0 = true := by unfold gd; exact decide_eq_true (fun c hc => by omega)
theorem p2_lt6 {j : Nat} (h : j < 6) : 2 ^ j < 64 := Nat.pow_lt_pow_right (n := 6) (by decide) h
theorem p2_bit {a j : Nat} (ha : a < 6) (hj : j < 6) : (nI a = nI j) = ((2 ^ j).testBit a = true) := by
  rw [i_eq (by omega) (by omega)]
  apply propext
  constructor
  · rintro rfl; exact Nat.testBit_two_pow_self
  · intro h
    refine Decidable.byContradiction fun q => ?_
    rw [Nat.testBit_two_pow_of_ne (fun e => q e.symm)] at h
    cases h
theorem m1_bit {a : Nat} (ha : a < 6) : (nI a = -1) = ((0 : Nat).testBit a = true) := by
  rw [Nat.zero_testBit]
  apply propext
  constructor
  · intro h
    exact absurd (h ▸ nI_pos (by omega : a < 2147483648)) (by decide)
  · intro h; cases h
theorem frM_of {M M1 : Nat → Nat → Int32} (h : ∀ c, c ≠ 56 → c ≠ 66 → c ≠ 67 → M1 c = M c) : frM M M1 := ⟨fun c hc => h c (by omega) (by omega) (by omega), h 59 (by decide) (by decide) (by decide), h 71 (by decide) (by decide) (by decide), h 72 (by decide) (by decide) (by decide), h 73 (by decide) (by decide) (by decide), h 74 (by decide) (by decide) (by decide), by rw [h 53 (by decide) (by decide) (by decide)], by rw [h 53 (by decide) (by decide) (by decide)]⟩
section SR
variable {d : Nat} {Q : Option Value → ex_H → Prop} {lx : Nat} {xs : Nat → Int32} {M : Nat → Nat → Int32} {x y z : Int32} {S : Nat → Nat → Nat} {a b c j k n t q s r ab p : Nat} {W sy : Nat → Nat} {o1 : Value}
theorem ll_X3_sparedSet (hW : WF S) : ∀ m j, j + m = S 0 0 → ∀ M, RepC M 2 S → (∀ c, c < S 0 0 → M 11 c = nI (kn (gw 0 (S 5 0) 0 0 S 2) c)) → ∃ M1, (∀ c, c ≠ 12 → M1 c = M c) ∧ ∀ d Q, Go (d + 3) 71 13 [some (.ref 2), some (.int (nI (spS S j))), some (.int (nI j))] [] (HP lx xs M) Q = Q (some (.int (nI (spS S (S 0 0))))) (HP lx xs M1) := by
  intro m
  have w1 := hW.1
  induction m with
  | zero =>
    intro j hj M hC h11
    have e : j = S 0 0 := by omega
    subst e
    refine ⟨M, fun _ _ => rfl, fun d Q => ?_⟩
    have c1 := hC.1
    rw [s_71_13]
    simp (disch := omega) only [s_71_14, s_71_15, s_71_18, s_71_52, s_71_53, ↓reduceIte, c1, i_lt, Nat.lt_irrefl]
  | succ m ih =>
    intro j hj M hC h11
    have hj2 : j < S 0 0 := by omega
    have c1 := hC.1
    obtain ⟨M1, q1, q2, q3⟩ := c_X3_goWithout (lx := lx) (xs := xs) (r := 12) (ab := 2 ^ j) (Or.inr rfl) (p2_lt6 (by omega)) hW hC
    have h11' : ∀ c, c < S 0 0 → M1 11 c = nI (kn (gw 0 (S 5 0) 0 0 S 2) c) := fun c hc => by rw [q1 11 (by decide)]; exact h11 c hc
    have hC1 : RepC M1 2 S := RepC_eq hC fun c h1 h2 => q1 c (by omega)
    have tr : ∀ d Q, Go d 72 0 [some (.ref 2), some (.int (nI j)), none] [] (HP lx xs M1) Q = Q (some (.int (bI (gd (kn (gw 0 (S 5 0) 0 0 S 2)) (kn (gw (2 ^ j) (S 5 0) 0 0 S 2)) j (S 0 0))))) (HP lx xs M1) := fun d Q => c_X3_trial (fun c => kn_lt _ c) w1 hC1.1 h11' q2 hj2
    obtain ⟨M2, r1, r2⟩ := ih (j + 1) (by omega) M1 hC1 h11'
    refine ⟨M2, fun c hc => (r1 c hc).trans (q1 c hc), fun d Q => ?_⟩
    rw [s_71_13]
    simp (disch := omega) only [s_71_0, s_71_1, s_71_2, s_71_3, s_71_4, s_71_5, s_71_8, s_71_11, s_71_12, s_71_14, s_71_15, s_71_18, s_71_21, s_71_22, s_71_23, s_71_24, s_71_25, s_71_26, s_71_29, s_71_32, s_71_33, s_71_34, s_71_37, s_71_40, s_71_41, s_71_42, s_71_43, s_71_44, s_71_45, s_71_46, s_71_49, s_71_52, s_71_53, ↓reduceIte, c1, i_lt, hj2, i_1s, q3, ap_none, tr, ap_some, bI_0, i_or, i_add]
    rw [← r2 d Q]
    simp only [spS]
    cases hg : gd (kn (gw 0 (S 5 0) 0 0 S 2)) (kn (gw (2 ^ j) (S 5 0) 0 0 S 2)) j (S 0 0)
    · simp only [↓reduceIte, Bool.false_eq_true, Nat.or_zero]
    · simp only [↓reduceIte, Bool.true_eq_false]
theorem c_X3_sparedSet (hW : WF S) (hC : RepC M 2 S) : ∃ M1, (∀ c, c ≠ 11 → c ≠ 12 → M1 c = M c) ∧ ∀ d Q, Go (d + 3) 71 0 [some (.ref 2), none, none] [] (HP lx xs M) Q = Q (some (.int (nI (spS S (S 0 0))))) (HP lx xs M1) := by
  obtain ⟨M1, q1, q2, q3⟩ := c_X3_goWithout (lx := lx) (xs := xs) (r := 11) (ab := 0) (Or.inl rfl) (by decide) hW hC
  obtain ⟨M2, r1, r2⟩ := ll_X3_sparedSet (lx := lx) (xs := xs) hW (S 0 0) 0 (by omega) M1 (RepC_eq hC fun c h1 h2 => q1 c (by omega)) q2
  refine ⟨M2, fun c h1 h2 => (r1 c h2).trans (q1 c h1), fun d Q => ?_⟩
  simp only [s_71_0, s_71_1, s_71_2, s_71_3, s_71_4, s_71_5, s_71_8, s_71_11, s_71_12, q3, ap_none]
  exact r2 d Q
theorem l_X7_sp (hn : n ≤ 6) (hW : ∀ c, W c < 16) (h67 : ∀ c, c < n → M 67 c = nI (W c)) (h4 : M 53 4 = nI n) (hs : ∀ i, i < 24 → M 56 i = nI (sy i)) (hb : ∀ i, i < 24 → sy i ≤ 97) (hp : p < n) (hj : j < n) : Go (d + 1) 149 84 [some (.ref 53), some o1, some (.int (nI p)), some (.int (bI (gd W (kn sy) p j))), some (.int (nI j))] [] (HP lx xs M) Q = Go (d + 1) 149 84 [some (.ref 53), some o1, some (.int (nI p)), some (.int (bI (gd W (kn sy) p (j + 1)))), some (.int (nI (j + 1)))] [] (HP lx xs M) Q := by
  have gs := gd_s W (kn sy) p j
  have f1 := h67 j hj
  have f3 : wo (W j) (kn sy j) < 2147483648 := wo_lt (by have := hW j; omega)
  rw [s_149_84, gs]
  by_cases hg : gd W (kn sy) p j = true
  · by_cases e : j = p
    · subst e
      simp (disch := omega) only [s_149_86, s_149_87, s_149_90, s_149_93, s_149_94, s_149_97, s_149_99, s_149_100, s_149_103, s_149_104, s_149_107, s_149_109, s_149_110, s_149_111, s_149_113, s_149_116, s_149_117, s_149_118, s_149_119, s_149_122, s_149_123, s_149_126, s_149_127, s_149_128, s_149_131, ↓reduceIte, h4, i_lt, hj, hg, bI_0, Bool.true_eq_false, n1_0, i_add, decide_true, Bool.true_or, Bool.and_self, bI_t]
    · by_cases e2 : wo (W j) (kn sy j) = 0
      · simp (disch := omega) only [s_149_86, s_149_87, s_149_90, s_149_93, s_149_94, s_149_97, s_149_99, s_149_100, s_149_103, s_149_104, s_149_107, s_149_109, s_149_110, s_149_111, s_149_113, s_149_116, s_149_117, s_149_118, s_149_119, s_149_122, s_149_123, s_149_126, s_149_127, s_149_128, s_149_131, ↓reduceIte, h4, i_lt, hj, hg, bI_0, Bool.true_eq_false, i_eq, e, i_in, i_cl, true_and, f1, c_X7_knownTo (by omega : j < 6) hs hb, ap_some, i_wo, i_e0, e2, Nat.one_ne_zero, n1_0, i_add, decide_true, decide_false, Bool.or_true, Bool.and_self, bI_t]
      · simp (disch := omega) only [s_149_86, s_149_87, s_149_90, s_149_93, s_149_94, s_149_97, s_149_99, s_149_100, s_149_103, s_149_104, s_149_107, s_149_109, s_149_110, s_149_111, s_149_113, s_149_116, s_149_117, s_149_118, s_149_119, s_149_122, s_149_123, s_149_126, s_149_127, s_149_128, s_149_131, ↓reduceIte, h4, i_lt, hj, hg, bI_0, Bool.true_eq_false, i_eq, e, i_in, i_cl, true_and, f1, c_X7_knownTo (by omega : j < 6) hs hb, ap_some, i_wo, i_e0, e2, Nat.one_ne_zero, n1_0, i_add, decide_false, Bool.or_false, Bool.and_false, bI_f]
  · rw [Bool.not_eq_true] at hg
    simp (disch := omega) only [s_149_86, s_149_87, s_149_90, s_149_93, s_149_94, s_149_97, s_149_99, s_149_100, s_149_103, s_149_104, s_149_107, s_149_109, s_149_110, s_149_111, s_149_113, s_149_116, s_149_117, s_149_118, s_149_119, s_149_122, s_149_123, s_149_126, s_149_127, s_149_128, s_149_131, ↓reduceIte, h4, i_lt, hj, hg, bI_0, n0_0, i_add, Bool.false_and, bI_f]
theorem mix_lt {f g : Nat → Int32} {j k : Nat} (h : k < j) : mix f g j k = g k := if_pos h
theorem ll_X7_spared (hW : WF S) : ∀ m j, j + m = S 0 0 → ∀ M, RepM M S → (∀ i, i < 24 → M 66 i = nI (S 2 i)) → (∀ c, c < S 0 0 → M 67 c = nI (kn (gw 0 (S 5 0) 0 0 S 2) c)) → ∃ M1, RepM M1 S ∧ (∀ c, c ≠ 56 → M1 c = M c) ∧ ∀ d Q o3 o4, Go (d + 3) 149 66 [some (.ref 53), some (.int (nI (spS S j))), some (.int (nI j)), o3, o4] [] (HP lx xs M) Q = Q (some (.int (nI (spS S (S 0 0))))) (HP lx xs M1) := by
  intro m
  have w1 := hW.1
  induction m with
  | zero =>
    intro j hj M hC h66 h67
    have e : j = S 0 0 := by omega
    subst e
    refine ⟨M, hC, fun _ _ => rfl, fun d Q o3 o4 => ?_⟩
    have c1 := hC.1
    rw [s_149_66]
    simp (disch := omega) only [s_149_67, s_149_68, s_149_71, s_149_158, s_149_159, ↓reduceIte, c1, i_lt, Nat.lt_irrefl]
  | succ m ih =>
    intro j hj M hC h66 h67
    have hj2 : j < S 0 0 := by omega
    have c1 := hC.1
    obtain ⟨M1, q1, q2, q3⟩ := c_X7_goWithout (lx := lx) (xs := xs) (x := nI j) (ab := 2 ^ j) (fun a ha => p2_bit ha (by omega)) hW hC
    have k67 : ∀ c, c < S 0 0 → M1 67 c = nI (kn (gw 0 (S 5 0) 0 0 S 2) c) := fun c hc => by rw [q1 67 (by decide)]; exact h67 c hc
    have k66 : ∀ i, i < 24 → M1 66 i = nI (S 2 i) := fun c hc => by rw [q1 66 (by decide)]; exact h66 c hc
    have k4 : M1 53 4 = nI (S 0 0) := by rw [q1 53 (by decide)]; exact c1
    have ks := q2.2.2.2.2.1
    have kb := (gw_WF (2 ^ j) (S 5 0) 0 0 S hW).2.2.2.2.1
    have hC2 : RepM (upr M1 56 (mix (M1 56) (M1 66) 24)) S := RepM_says q2 (fun r hr => (gw_row _ hr _ _ _ _).symm) (fun i hi => by rw [upr_eq, mix_lt hi]; exact k66 i hi) (fun c hc => upr_ne _ _ hc)
    have k4' : upr M1 56 (mix (M1 56) (M1 66) 24) 53 4 = nI (S 0 0) := hC2.1
    obtain ⟨M2, r0, r1, r2⟩ := ih (j + 1) (by omega) (upr M1 56 (mix (M1 56) (M1 66) 24)) hC2 (fun i hi => by rw [upr_ne _ _ (by decide)]; exact k66 i hi) (fun i hi => by rw [upr_ne _ _ (by decide)]; exact k67 i hi)
    refine ⟨M2, r0, fun c hc => ((r1 c hc).trans (upr_ne _ _ hc)).trans (q1 c hc), fun d Q o3 o4 => ?_⟩
    have lp := loopN (fun i => Go (d + 3) 149 84 [some (.ref 53), some (.int (nI (spS S j))), some (.int (nI j)), some (.int (bI (gd (kn (gw 0 (S 5 0) 0 0 S 2)) (kn (gw (2 ^ j) (S 5 0) 0 0 S 2)) j i))), some (.int (nI i))] [] (HP lx xs M1) Q) (S 0 0) (fun i hi => l_X7_sp w1 (fun c => kn_lt _ c) k67 k4 ks kb hj2 hi)
    try dsimp only at lp
    rw [gd_0, bI_t] at lp
    rw [s_149_66]
    simp (disch := omega) only [s_149_67, s_149_68, s_149_71, s_149_74, s_149_75, s_149_76, s_149_79, s_149_80, s_149_81, s_149_82, ↓reduceIte, c1, i_lt, hj2, q3, ap_none]
    rw [lp, s_149_84]
    simp (disch := omega) only [s_149_86, s_149_87, s_149_90, s_149_134, s_149_135, s_149_138, s_149_139, s_149_140, s_149_143, s_149_144, s_149_145, s_149_146, s_149_149, s_149_150, s_149_151, s_149_152, s_149_155, ↓reduceIte, k4, i_lt, Nat.lt_irrefl, c_X7_bringBack, ap_none, bI_0, i_1s, i_or, i_add]
    rw [← r2 d Q (some (.int (bI (gd (kn (gw 0 (S 5 0) 0 0 S 2)) (kn (gw (2 ^ j) (S 5 0) 0 0 S 2)) j (S 0 0))))) (some (.int (nI (S 0 0))))]
    simp only [spS]
    cases hg : gd (kn (gw 0 (S 5 0) 0 0 S 2)) (kn (gw (2 ^ j) (S 5 0) 0 0 S 2)) j (S 0 0)
    · simp only [↓reduceIte, Bool.false_eq_true, Nat.or_zero]
    · simp only [↓reduceIte, Bool.true_eq_false]
theorem c_X7_spared (hW : WF S) (hC : RepM M S) : ∃ M1, RepM M1 S ∧ frM M M1 ∧ ∀ d Q, Go (d + 3) 149 0 [some (.ref 53), none, none, none, none] [] (HP lx xs M) Q = Q (some (.int (nI (spS S (S 0 0))))) (HP lx xs M1) := by
  have w1 := hW.1
  have hCa : RepM (upr M 66 (mix (M 66) (M 56) 24)) S := RepM_eq hC (fun j _ _ => by rw [upr_ne _ _ (by decide)]) (fun c h1 h2 => upr_ne _ _ (by omega))
  obtain ⟨M1, q1, q2, q3⟩ := c_X7_goWithout (lx := lx) (xs := xs) (x := -1) (ab := 0) (fun a ha => m1_bit ha) hW hCa
  have k66 : ∀ i, i < 24 → M1 66 i = nI (S 2 i) := fun i hi => by rw [q1 66 (by decide), upr_eq, mix_lt hi]; exact hC.2.2.2.2.1 i hi
  have k4 : M1 53 4 = nI (S 0 0) := by rw [q1 53 (by decide)]; exact hCa.1
  have ks := q2.2.2.2.2.1
  have kb := (gw_WF 0 (S 5 0) 0 0 S hW).2.2.2.2.1
  have hC2 : RepM (upr (upr M1 67 (mix (M1 67) (fun c => nI (kn (gw 0 (S 5 0) 0 0 S 2) c)) (S 0 0))) 56 (mix (M1 56) (M1 66) 24)) S := RepM_says (M := upr M1 67 (mix (M1 67) (fun c => nI (kn (gw 0 (S 5 0) 0 0 S 2) c)) (S 0 0))) (RepM_eq q2 (fun j _ _ => by rw [upr_ne _ _ (by decide)]) (fun c h1 h2 => upr_ne _ _ (by omega))) (fun r hr => (gw_row _ hr _ _ _ _).symm) (fun i hi => by rw [upr_eq, mix_lt hi]; exact k66 i hi) (fun c hc => upr_ne _ _ hc)
  obtain ⟨M2, r0, r1, r2⟩ := ll_X7_spared (lx := lx) (xs := xs) hW (S 0 0) 0 (by omega) _ hC2 (fun i hi => by rw [upr_ne _ _ (by decide), upr_ne _ _ (by decide)]; exact k66 i hi) (fun c hc => by rw [upr_ne _ _ (by decide), upr_eq, mix_lt hc])
  refine ⟨M2, r0, frM_of fun c h1 h2 h3 => by rw [r1 c h1, upr_ne _ _ h1, upr_ne _ _ h3, q1 c h1, upr_ne _ _ h2], fun d Q => ?_⟩
  rw [s_149_0, s_149_1]
  have l1 := loopN (fun j => Go (d + 3) 149 2 [some (.ref 53), some (.int (nI j)), none, none, none] [] (HP lx xs (upr M 66 (mix (M 66) (M 56) j))) Q) 24 fun j hj => by
    show Go (d + 3) _ 2 _ _ _ _ = Go (d + 3) _ 2 _ _ _ _
    rw [s_149_2]
    simp (disch := omega) only [s_149_3, s_149_5, s_149_8, s_149_9, s_149_12, s_149_13, s_149_14, s_149_17, s_149_18, s_149_19, s_149_20, s_149_23, ↓reduceIte, i_lt, hj, i_in, i_cl, true_and, upr_ne, up_upr, mix_up, i_add]
  try dsimp only at l1
  rw [mix_0, upr_self] at l1
  rw [l1, s_149_2]
  simp (disch := omega) only [s_149_3, s_149_5, s_149_26, s_149_27, s_149_28, s_149_31, s_149_32, ↓reduceIte, i_lt, Nat.lt_irrefl, q3, ap_none]
  have l2 := loopN (fun j => Go (d + 3) 149 33 [some (.ref 53), some (.int (nI j)), none, none, none] [] (HP lx xs (upr M1 67 (mix (M1 67) (fun c => nI (kn (gw 0 (S 5 0) 0 0 S 2) c)) j))) Q) (S 0 0) fun j hj => by
    show Go (d + 3) _ 33 _ _ _ _ = Go (d + 3) _ 33 _ _ _ _
    have ks2 : ∀ i, i < 24 → upr M1 67 (mix (M1 67) (fun c => nI (kn (gw 0 (S 5 0) 0 0 S 2) c)) j) 56 i = nI (gw 0 (S 5 0) 0 0 S 2 i) := fun i hi => by rw [upr_ne _ _ (by decide)]; exact ks i hi
    rw [s_149_33]
    simp (disch := omega) only [s_149_34, s_149_35, s_149_38, s_149_41, s_149_42, s_149_45, s_149_46, s_149_47, s_149_48, s_149_51, s_149_52, s_149_55, ↓reduceIte, upr_ne, k4, i_lt, hj, c_X7_knownTo (by omega : j < 6) ks2 kb, ap_some, i_in, i_cl, true_and, up_upr, i_add]
    rw [mix_up (g := fun c => nI (kn (gw 0 (S 5 0) 0 0 S 2) c))]
  try dsimp only at l2
  rw [mix_0, upr_self] at l2
  rw [l2, s_149_33]
  simp (disch := omega) only [s_149_34, s_149_35, s_149_38, s_149_58, s_149_59, s_149_62, s_149_63, s_149_64, s_149_65, ↓reduceIte, upr_ne, k4, i_lt, Nat.lt_irrefl, c_X7_bringBack, ap_none]
  exact r2 d Q none none
theorem op_spared (hW : WF S) : opS 31 149 [some (.ref 1)] [some (.ref 53), none, none, none, none] S := by
  refine ⟨nI (spS S (S 0 0)), S, hW, fun lx xs M hC hB => ?_, fun lx xs M hC => ?_⟩
  · obtain ⟨M1, q1, q2⟩ := c_X3_sparedSet (lx := lx) (xs := xs) hW hC
    refine ⟨M1, RepC_eq hC fun c h1 h2 => q1 c (by omega) (by omega), fun i hi => by rw [q1 5 (by decide) (by decide)]; exact hB i hi, fun c hc => q1 c (by unfold prC at hc; omega) (by unfold prC at hc; omega), fun Q => ?_⟩
    have := q2 1995
    simp only [Nat.reduceAdd] at this
    simp only [s_31_0, s_31_1, s_31_4, s_31_7, this, ap_some]
  · obtain ⟨M1, q1, q2, q3⟩ := c_X7_spared (lx := lx) (xs := xs) hW hC
    exact ⟨M1, q1, q2, fun Q => q3 1996 Q⟩
end SR
