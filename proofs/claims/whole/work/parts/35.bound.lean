/-! bound: class and reference alike -/
/-- how many of these things the first m children know -/
def kno (S : Nat → Nat → Nat) (s : Nat) : Nat → Nat
  | 0 => 0
  | m + 1 => kno S s m + pcn (kn (S 2) m &&& s)
/-- .. and lack -/
def lck (S : Nat → Nat → Nat) (s : Nat) : Nat → Nat
  | 0 => 0
  | m + 1 => lck S s m + pcn (wo s (kn (S 2) m))
theorem kno_lck (S : Nat → Nat → Nat) {s : Nat} (hs : s < 16) : ∀ m, kno S s m + lck S s m = m * pcn s := by
  intro m
  induction m with
  | zero => rw [Nat.zero_mul]; rfl
  | succ m ih =>
    have h := pcn_split s hs (kn (S 2) m) (kn_lt _ _)
    have e : kn (S 2) m &&& s = s &&& kn (S 2) m := Nat.and_comm _ _
    unfold kno lck
    rw [Nat.succ_mul, e]
    omega
theorem lck_le (S : Nat → Nat → Nat) {s : Nat} (hs : s < 16) : ∀ m, lck S s m ≤ m * 4 := by
  intro m
  have h1 := kno_lck S hs m
  have h2 := pcn_16 s hs
  have h3 : m * pcn s ≤ m * 4 := Nat.mul_le_mul_left m h2
  omega
section BO
variable {d : Nat} {Q : Option Value → ex_H → Prop} {lx : Nat} {xs : Nat → Int32} {M : Nat → Nat → Int32} {x y z : Int32} {S : Nat → Nat → Nat} {a b c j k n t q s : Nat}
theorem l_X3_knownOf (hC : RepC M 2 S) (hn : S 0 0 ≤ 6) (hs : s < 16) (hj : j < S 0 0) : Go (d + 1) 65 4 [some (.ref 2), some (.int (nI s)), some (.int (nI (kno S s j))), some (.int (nI j))] [] (HP lx xs M) Q = Go (d + 1) 65 4 [some (.ref 2), some (.int (nI s)), some (.int (nI (kno S s (j + 1)))), some (.int (nI (j + 1)))] [] (HP lx xs M) Q := by
  obtain ⟨c1, c2, c3, c4, c5, c6, c7, c8, c9, c10, c11, c12⟩ := hC
  simp only [Nat.reduceAdd] at c6
  have e1 := c6 j hj
  have k1 := kn_lt (S 2) j
  have k2 : kn (S 2) j &&& s < 4096 := Nat.lt_of_le_of_lt Nat.and_le_left (by omega)
  rw [s_65_4]
  simp (disch := omega) only [s_65_0, s_65_1, s_65_2, s_65_3, s_65_5, s_65_6, s_65_9, s_65_12, s_65_13, s_65_14, s_65_17, s_65_18, s_65_19, s_65_20, s_65_21, s_65_24, s_65_25, s_65_26, s_65_29, s_65_32, s_65_33, ↓reduceIte, c1, i_lt, hj, i_in, i_cl, true_and, e1, i_and, c_bitCount, ap_some, i_add]
  rfl
theorem ll_X3_knownOf (hC : RepC M 2 S) (hn : S 0 0 ≤ 6) (hs : s < 16) : ∀ m j, j + m = S 0 0 → Go (d + 1) 65 4 [some (.ref 2), some (.int (nI s)), some (.int (nI (kno S s j))), some (.int (nI j))] [] (HP lx xs M) Q = Q (some (.int (nI (kno S s (S 0 0))))) (HP lx xs M) := by
  intro m
  induction m with
  | zero =>
    intro j hj
    have e : j = S 0 0 := by omega
    subst e
    rw [s_65_4]
    simp (disch := omega) only [s_65_0, s_65_1, s_65_2, s_65_3, s_65_5, s_65_6, s_65_9, s_65_12, s_65_13, s_65_14, s_65_17, s_65_18, s_65_19, s_65_20, s_65_21, s_65_24, s_65_25, s_65_26, s_65_29, s_65_32, s_65_33, ↓reduceIte, hC.1, i_lt, Nat.lt_irrefl]
  | succ m ih => intro j hj; rw [l_X3_knownOf hC hn hs (by omega)]; exact ih (j + 1) (by omega)
theorem c_X3_knownOf (hC : RepC M 2 S) (hn : S 0 0 ≤ 6) (hs : s < 16) : Go (d + 1) 65 0 [some (.ref 2), some (.int (nI s)), none, none] [] (HP lx xs M) Q = Q (some (.int (nI (kno S s (S 0 0))))) (HP lx xs M) := by
  rw [s_65_0, s_65_1, s_65_2, s_65_3]
  exact ll_X3_knownOf hC hn hs (S 0 0) 0 (by omega)
theorem l_X7_bound (hC : RepM M S) (hW : WF S) (hs : s < 16) (hj : j < S 0 0) : Go (d + 1) 146 18 [some (.ref 53), some (.int (nI s)), some (.int (nI (lck S s j))), some (.int (nI j))] [] (HP lx xs M) Q = Go (d + 1) 146 18 [some (.ref 53), some (.int (nI s)), some (.int (nI (lck S s (j + 1)))), some (.int (nI (j + 1)))] [] (HP lx xs M) Q := by
  have w1 := hW.1
  have w5 := hW.2.2.2.2.1
  have k2 : wo s (kn (S 2) j) < 16 := Nat.lt_of_le_of_lt (wo_le _ _) hs
  rw [s_146_18]
  simp (disch := omega) only [s_146_0, s_146_1, s_146_2, s_146_3, s_146_6, s_146_9, s_146_12, s_146_13, s_146_14, s_146_15, s_146_16, s_146_17, s_146_19, s_146_20, s_146_23, s_146_26, s_146_27, s_146_28, s_146_29, s_146_30, s_146_33, s_146_34, s_146_35, s_146_36, s_146_39, s_146_40, s_146_41, s_146_44, s_146_47, s_146_48, s_146_51, s_146_52, s_146_53, s_146_54, s_146_55, s_146_58, s_146_59, s_146_62, s_146_63, s_146_66, s_146_68, s_146_71, s_146_72, s_146_73, s_146_74, s_146_75, s_146_76, s_146_77, s_146_78, ↓reduceIte, hC.1, i_lt, hj, c_X7_knownTo (by omega : j < 6) hC.2.2.2.2.1 w5, i_wo, c_X7_ones, ap_some, i_add]
  rfl
theorem ll_X7_bound (hC : RepM M S) (hW : WF S) (hs : s < 16) : ∀ m j, j + m = S 0 0 → Go (d + 1) 146 18 [some (.ref 53), some (.int (nI s)), some (.int (nI (lck S s j))), some (.int (nI j))] [] (HP lx xs M) Q = Go (d + 1) 146 47 [some (.ref 53), some (.int (nI s)), some (.int (nI (lck S s (S 0 0)))), some (.int (nI (S 0 0)))] [] (HP lx xs M) Q := by
  have w1 := hW.1
  intro m
  induction m with
  | zero =>
    intro j hj
    have e : j = S 0 0 := by omega
    subst e
    rw [s_146_18]
    simp (disch := omega) only [s_146_19, s_146_20, s_146_23, ↓reduceIte, hC.1, i_lt, Nat.lt_irrefl]
  | succ m ih => intro j hj; rw [l_X7_bound hC hW hs (by omega)]; exact ih (j + 1) (by omega)
theorem op_bound (hW : WF S) : opS 30 146 [some (.ref 1), some (.int x), none, none] [some (.ref 53), some (.int x), none, none] S := by
  have w1 := hW.1
  by_cases h1 : isr x 16 = true
  · obtain ⟨s, hs, -, rfl⟩ := isr_of h1
    have l1 := kno_lck S hs (S 0 0)
    have l2 := lck_le S hs (S 0 0)
    have l3 := pcn_16 s hs
    have l4 : S 0 0 * pcn s ≤ 6 * 4 := Nat.mul_le_mul w1 l3
    have e1 : S 0 0 * pcn s - kno S s (S 0 0) = lck S s (S 0 0) := by omega
    refine opS_same (if lck S s (S 0 0) = 0 then nI 0 else if S 0 0 / 2 = 0 then -4 else nI ((lck S s (S 0 0) + S 0 0 / 2 - 1) / (S 0 0 / 2))) hW (fun lx xs M hC Q => ?_) (fun lx xs M hC Q => ?_)
    · have d1 : ¬ nI 2 = 0 := by decide
      simp (disch := omega) only [s_30_0, s_30_1, s_30_4, s_30_7, s_30_8, s_30_9, s_30_10, s_30_13, s_30_16, s_30_17, s_30_20, s_30_21, s_30_22, s_30_25, s_30_26, s_30_29, s_30_30, s_30_31, s_30_32, s_30_35, s_30_36, s_30_37, s_30_38, s_30_41, s_30_44, s_30_45, s_30_46, s_30_47, s_30_48, s_30_51, s_30_53, s_30_54, s_30_55, s_30_56, s_30_57, s_30_58, s_30_59, s_30_60, s_30_61, ↓reduceIte, c_X6_isSet, h1, bI_0, Bool.true_eq_false, ap_some, hC.1, c_bitCount, i_mul, c_X3_knownOf hC w1 hs, i_sub, e1, i_e0, d1, not_false_eq_true, true_and, i_div, i_add]
      by_cases h2 : lck S s (S 0 0) = 0
      · simp only [h2, ↓reduceIte]
      · by_cases h3 : S 0 0 / 2 = 0
        · simp only [h2, h3, ↓reduceIte]
        · simp (disch := omega) only [h2, h3, ↓reduceIte, not_false_eq_true, true_and, i_sub, i_div]
    · have d1 : ¬ nI 2 = 0 := by decide
      simp (disch := omega) only [s_146_0, s_146_1, s_146_2, s_146_3, s_146_6, s_146_9, s_146_12, s_146_13, s_146_14, s_146_15, s_146_16, s_146_17, ↓reduceIte, in_isr, Nat.reduceAdd, h1, bI_0, Bool.true_eq_false, ap_some]
      refine (ll_X7_bound (d := 1998) hC hW hs (S 0 0) 0 (by omega)).trans ?_
      simp (disch := omega) only [s_146_47, s_146_48, s_146_51, s_146_52, s_146_53, s_146_54, s_146_55, s_146_58, s_146_59, s_146_62, s_146_63, s_146_66, s_146_68, s_146_71, s_146_72, s_146_73, s_146_74, s_146_75, s_146_76, s_146_77, s_146_78, ↓reduceIte, hC.1, i_e0, d1, not_false_eq_true, true_and, i_div, i_add]
      by_cases h2 : lck S s (S 0 0) = 0
      · simp only [h2, ↓reduceIte]
      · by_cases h3 : S 0 0 / 2 = 0
        · simp only [h2, h3, ↓reduceIte]
        · simp (disch := omega) only [h2, h3, ↓reduceIte, not_false_eq_true, true_and, i_sub, i_div]
  · rw [Bool.not_eq_true] at h1
    refine opS_same (-1) hW (fun lx xs M hC Q => ?_) (fun lx xs M hC Q => ?_)
    · simp (disch := omega) only [s_30_0, s_30_1, s_30_4, s_30_7, s_30_8, s_30_9, s_30_10, s_30_13, s_30_16, s_30_17, s_30_20, s_30_21, s_30_22, s_30_25, s_30_26, s_30_29, s_30_30, s_30_31, s_30_32, s_30_35, s_30_36, s_30_37, s_30_38, s_30_41, s_30_44, s_30_45, s_30_46, s_30_47, s_30_48, s_30_51, s_30_53, s_30_54, s_30_55, s_30_56, s_30_57, s_30_58, s_30_59, s_30_60, s_30_61, ↓reduceIte, c_X6_isSet, h1, bI_0, ap_some]
    · simp (disch := omega) only [s_146_0, s_146_1, s_146_2, s_146_3, s_146_6, s_146_9, s_146_12, s_146_13, s_146_14, s_146_15, s_146_16, s_146_17, ↓reduceIte, in_isr, Nat.reduceAdd, h1, bI_0, ap_some]
end BO
