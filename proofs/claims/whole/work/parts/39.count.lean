/-! count: class and reference alike -/
theorem loopN (G : Nat → Prop) (n : Nat) (h : ∀ j, j < n → G j = G (j + 1)) : G 0 = G n := by
  induction n with
  | zero => rfl
  | succ n ih => exact (ih fun j hj => h j (by omega)).trans (h n (by omega))
def cnt (S : Nat → Nat → Nat) : Nat → Nat
  | 0 => 0
  | m + 1 => cnt S m + (if S 2 m < 97 then 1 else 0)
def gar (S : Nat → Nat → Nat) : Nat → Nat
  | 0 => 0
  | m + 1 => gar S m + (if 0 < S 2 m ∧ S 2 m < 97 then 1 else 0)
theorem kn_pcn (sy : Nat → Nat) (c : Nat) : pcn (kn sy c &&& 15) = (if sy (c * 4) < 97 then 1 else 0) + (if sy (c * 4 + 1) < 97 then 1 else 0) + (if sy (c * 4 + 2) < 97 then 1 else 0) + (if sy (c * 4 + 3) < 97 then 1 else 0) := by
  unfold kn
  by_cases h0 : sy (c * 4) < 97 <;> by_cases h1 : sy (c * 4 + 1) < 97 <;> by_cases h2 : sy (c * 4 + 2) < 97 <;> by_cases h3 : sy (c * 4 + 3) < 97 <;> simp only [h0, h1, h2, h3, if_true, if_false] <;> decide
theorem kno_cnt (S : Nat → Nat → Nat) : ∀ m, kno S 15 m = cnt S (4 * m) := by
  intro m
  induction m with
  | zero => rfl
  | succ m ih =>
    rw [show 4 * (m + 1) = 4 * m + 3 + 1 by omega]
    unfold kno
    rw [ih, kn_pcn, Nat.mul_comm m 4]
    simp only [cnt]
    omega
section CN
variable {d : Nat} {Q : Option Value → ex_H → Prop} {lx : Nat} {xs : Nat → Int32} {M : Nat → Nat → Int32} {x y z : Int32} {S : Nat → Nat → Nat} {a b c j k n t q s : Nat}
theorem c_X3_garbled (hC : RepC M 2 S) (hW : WF S) : Go d 66 0 [some (.ref 2), none, none] [] (HP lx xs M) Q = Q (some (.int (nI (gar S (4 * S 0 0))))) (HP lx xs M) := by
  obtain ⟨c1, c2, c3, c4, c5, c6, c7, c8, c9, c10, c11, c12⟩ := hC
  simp only [Nat.reduceAdd] at c5
  have w1 := hW.1
  have w5 := hW.2.2.2.2.1
  rw [s_66_0, s_66_1, s_66_2, s_66_3]
  refine (loopN (fun j => Go d 66 4 [some (.ref 2), some (.int (nI (gar S j))), some (.int (nI j))] [] (HP lx xs M) Q) (4 * S 0 0) fun j hj => ?_).trans ?_
  · have e1 := c5 j (by omega)
    have e2 := w5 j (by omega)
    have hj2 : j < S 0 0 * 4 := by omega
    show Go d _ 4 _ _ _ _ = Go d _ 4 _ _ _ _
    rw [s_66_4]
    simp (disch := omega) only [s_66_0, s_66_1, s_66_2, s_66_3, s_66_5, s_66_6, s_66_9, s_66_10, s_66_11, s_66_14, s_66_15, s_66_18, s_66_19, s_66_20, s_66_23, s_66_24, s_66_27, s_66_28, s_66_29, s_66_31, s_66_34, s_66_37, s_66_40, s_66_43, s_66_44, ↓reduceIte, c1, i_mul, i_lt, hj2, i_in, i_cl, true_and, e1, i_e0, i_eq, i_add, gar]
    by_cases h1 : S 2 j = 0
    · simp only [h1, ↓reduceIte, Nat.lt_irrefl, false_and, Nat.add_zero]
    · by_cases h2 : S 2 j = 97
      · simp only [h2, ↓reduceIte, Nat.lt_irrefl, and_false, Nat.add_zero, Nat.reduceEqDiff]
      · simp only [h1, h2, ↓reduceIte]
        rw [if_pos (by omega)]
  · show Go d _ 4 _ _ _ _ = _
    rw [s_66_4]
    have hj2 : ¬ 4 * S 0 0 < S 0 0 * 4 := by omega
    simp (disch := omega) only [s_66_0, s_66_1, s_66_2, s_66_3, s_66_5, s_66_6, s_66_9, s_66_10, s_66_11, s_66_14, s_66_15, s_66_18, s_66_19, s_66_20, s_66_23, s_66_24, s_66_27, s_66_28, s_66_29, s_66_31, s_66_34, s_66_37, s_66_40, s_66_43, s_66_44, ↓reduceIte, c1, i_mul, i_lt, hj2]
theorem l_X7_count (hC : RepM M S) (hW : WF S) : Go d 128 0 [some (.ref 53), some (.int x), none, none, none] [] (HP lx xs M) Q = Go d 128 74 [some (.ref 53), some (.int x), some (.int (nI (cnt S (4 * S 0 0)))), some (.int (nI (gar S (4 * S 0 0)))), some (.int (nI (4 * S 0 0)))] [] (HP lx xs M) Q := by
  obtain ⟨c1, c2, c3, c4, c5, c6, c7, c8, c9⟩ := hC
  have w1 := hW.1
  have w5 := hW.2.2.2.2.1
  simp only [s_128_0, s_128_1, s_128_2, s_128_3, s_128_4, s_128_5]
  refine (loopN (fun j => Go d 128 7 [some (.ref 53), some (.int x), some (.int (nI (cnt S j))), some (.int (nI (gar S j))), some (.int (nI j))] [] (HP lx xs M) Q) (4 * S 0 0) fun j hj => ?_).trans ?_
  · have e1 := c5 j (by omega)
    have e2 := w5 j (by omega)
    show Go d _ 7 _ _ _ _ = Go d _ 7 _ _ _ _
    rw [s_128_7]
    simp (disch := omega) only [s_128_9, s_128_10, s_128_11, s_128_14, s_128_15, s_128_18, s_128_19, s_128_20, s_128_23, s_128_25, s_128_26, s_128_28, s_128_31, s_128_32, s_128_35, s_128_36, s_128_37, s_128_38, s_128_39, s_128_40, s_128_43, s_128_45, s_128_46, s_128_48, s_128_51, s_128_52, s_128_55, s_128_57, s_128_58, s_128_61, s_128_62, s_128_65, s_128_66, s_128_67, s_128_68, s_128_71, ↓reduceIte, c1, i_mul, i_lt, hj, i_in, i_cl, true_and, e1, i_0l, i_eq, i_add, gar, cnt]
    by_cases h1 : S 2 j < 97
    · by_cases h2 : 0 < S 2 j
      · simp only [h1, h2, ↓reduceIte, and_self]
      · simp only [h1, h2, ↓reduceIte, and_true]
    · simp only [h1, ↓reduceIte, and_false]
  · show Go d _ 7 _ _ _ _ = _
    rw [s_128_7]
    simp (disch := omega) only [s_128_9, s_128_10, s_128_11, s_128_14, s_128_15, ↓reduceIte, c1, i_mul, i_lt, Nat.lt_irrefl]
theorem op_count (hW : WF S) : opS 25 128 [some (.ref 1), some (.int x)] [some (.ref 53), some (.int x), none, none, none] S := by
  have w1 := hW.1
  have w8 := hW.2.2.2.2.2.2.2.1
  by_cases h1 : isr x 6 = true
  · obtain ⟨v, hv, -, rfl⟩ := isr_of h1
    refine opS_same (if v = 0 then nI (S 0 0) else if v = 1 then nI (S 0 1) else if v = 2 then nI (S 5 0) else if v = 3 then nI (hrs S) else if v = 4 then nI (cnt S (4 * S 0 0)) else nI (gar S (4 * S 0 0))) hW (fun lx xs M hC Q => ?_) (fun lx xs M hC Q => ?_)
    · have hC' := hC
      obtain ⟨c1, c2, c3, c4, c5, c6, c7, c8, c9, c10, c11, c12⟩ := hC
      simp only [Nat.reduceAdd] at c9 c10
      rcases (by omega : v = 0 ∨ v = 1 ∨ v = 2 ∨ v = 3 ∨ v = 4 ∨ v = 5) with rfl | rfl | rfl | rfl | rfl | rfl <;> simp (disch := omega) only [s_25_0, s_25_1_0, s_25_1_1, s_25_1_2, s_25_1_3, s_25_1_4, s_25_1_5, s_25_1_6, s_25_1_7, s_25_1_8, s_25_1_9, s_25_1_10, s_25_1_11, s_25_40, s_25_41, s_25_44, s_25_47, s_25_48, s_25_49, s_25_52, s_25_55, s_25_56, s_25_57, s_25_60, s_25_63, s_25_66, s_25_67, s_25_68, s_25_71, s_25_74, s_25_77, s_25_78, s_25_79, s_25_82, s_25_84, s_25_87, s_25_88, s_25_89, s_25_92, s_25_95, s_25_96, s_25_97, c1, c2, c9, c10, c_X3_garbled hC' hW, c_X3_knownOf hC' w1 (by decide : 15 < 16), kno_cnt, ap_some] <;> rfl
    · rw [l_X7_count hC hW]
      obtain ⟨c1, c2, c3, c4, c5, c6, c7, c8, c9⟩ := hC
      rcases (by omega : v = 0 ∨ v = 1 ∨ v = 2 ∨ v = 3 ∨ v = 4 ∨ v = 5) with rfl | rfl | rfl | rfl | rfl | rfl
      · simp (disch := omega) only [s_128_74, s_128_75_0, s_128_75_1, s_128_75_2, s_128_75_3, s_128_75_4, s_128_75_5, s_128_75_6, s_128_75_7, s_128_75_8, s_128_75_9, s_128_75_10, s_128_75_11, s_128_112, s_128_113, s_128_116, s_128_117, s_128_118, s_128_121, s_128_122, s_128_123, s_128_126, s_128_127, s_128_128, s_128_131, s_128_134, s_128_135, s_128_138, s_128_139, s_128_142, s_128_143, s_128_144, s_128_147, s_128_148, s_128_149, s_128_150, s_128_151, s_128_152, s_128_153, s_128_154, s_128_155, s_128_156, s_128_157, s_128_158, s_128_159, c1]; rfl
      · simp (disch := omega) only [s_128_74, s_128_75_0, s_128_75_1, s_128_75_2, s_128_75_3, s_128_75_4, s_128_75_5, s_128_75_6, s_128_75_7, s_128_75_8, s_128_75_9, s_128_75_10, s_128_75_11, s_128_112, s_128_113, s_128_116, s_128_117, s_128_118, s_128_121, s_128_122, s_128_123, s_128_126, s_128_127, s_128_128, s_128_131, s_128_134, s_128_135, s_128_138, s_128_139, s_128_142, s_128_143, s_128_144, s_128_147, s_128_148, s_128_149, s_128_150, s_128_151, s_128_152, s_128_153, s_128_154, s_128_155, s_128_156, s_128_157, s_128_158, s_128_159, c2]; rfl
      · simp (disch := omega) only [s_128_74, s_128_75_0, s_128_75_1, s_128_75_2, s_128_75_3, s_128_75_4, s_128_75_5, s_128_75_6, s_128_75_7, s_128_75_8, s_128_75_9, s_128_75_10, s_128_75_11, s_128_112, s_128_113, s_128_116, s_128_117, s_128_118, s_128_121, s_128_122, s_128_123, s_128_126, s_128_127, s_128_128, s_128_131, s_128_134, s_128_135, s_128_138, s_128_139, s_128_142, s_128_143, s_128_144, s_128_147, s_128_148, s_128_149, s_128_150, s_128_151, s_128_152, s_128_153, s_128_154, s_128_155, s_128_156, s_128_157, s_128_158, s_128_159, c8]; rfl
      · by_cases h0 : S 5 0 = 0
        · simp (disch := omega) only [s_128_74, s_128_75_0, s_128_75_1, s_128_75_2, s_128_75_3, s_128_75_4, s_128_75_5, s_128_75_6, s_128_75_7, s_128_75_8, s_128_75_9, s_128_75_10, s_128_75_11, s_128_112, s_128_113, s_128_116, s_128_117, s_128_118, s_128_121, s_128_122, s_128_123, s_128_126, s_128_127, s_128_128, s_128_131, s_128_134, s_128_135, s_128_138, s_128_139, s_128_142, s_128_143, s_128_144, s_128_147, s_128_148, s_128_149, s_128_150, s_128_151, s_128_152, s_128_153, s_128_154, s_128_155, s_128_156, s_128_157, s_128_158, s_128_159, ↓reduceIte, c8, i_e0, h0, hrs]; rfl
        · have e1 := (c9 (S 5 0 - 1) (by omega)).2.2.2
          rw [show 4 * (S 5 0 - 1) + 3 = 4 * S 5 0 - 1 by omega] at e1
          simp (disch := omega) only [s_128_74, s_128_75_0, s_128_75_1, s_128_75_2, s_128_75_3, s_128_75_4, s_128_75_5, s_128_75_6, s_128_75_7, s_128_75_8, s_128_75_9, s_128_75_10, s_128_75_11, s_128_112, s_128_113, s_128_116, s_128_117, s_128_118, s_128_121, s_128_122, s_128_123, s_128_126, s_128_127, s_128_128, s_128_131, s_128_134, s_128_135, s_128_138, s_128_139, s_128_142, s_128_143, s_128_144, s_128_147, s_128_148, s_128_149, s_128_150, s_128_151, s_128_152, s_128_153, s_128_154, s_128_155, s_128_156, s_128_157, s_128_158, s_128_159, ↓reduceIte, c8, i_e0, h0, hrs, i_mul, i_sub, i_in, i_cl, true_and, e1, i_add]; rfl
      · simp (disch := omega) only [s_128_74, s_128_75_0, s_128_75_1, s_128_75_2, s_128_75_3, s_128_75_4, s_128_75_5, s_128_75_6, s_128_75_7, s_128_75_8, s_128_75_9, s_128_75_10, s_128_75_11, s_128_112, s_128_113, s_128_116, s_128_117, s_128_118, s_128_121, s_128_122, s_128_123, s_128_126, s_128_127, s_128_128, s_128_131, s_128_134, s_128_135, s_128_138, s_128_139, s_128_142, s_128_143, s_128_144, s_128_147, s_128_148, s_128_149, s_128_150, s_128_151, s_128_152, s_128_153, s_128_154, s_128_155, s_128_156, s_128_157, s_128_158, s_128_159]; rfl
      · simp (disch := omega) only [s_128_74, s_128_75_0, s_128_75_1, s_128_75_2, s_128_75_3, s_128_75_4, s_128_75_5, s_128_75_6, s_128_75_7, s_128_75_8, s_128_75_9, s_128_75_10, s_128_75_11, s_128_112, s_128_113, s_128_116, s_128_117, s_128_118, s_128_121, s_128_122, s_128_123, s_128_126, s_128_127, s_128_128, s_128_131, s_128_134, s_128_135, s_128_138, s_128_139, s_128_142, s_128_143, s_128_144, s_128_147, s_128_148, s_128_149, s_128_150, s_128_151, s_128_152, s_128_153, s_128_154, s_128_155, s_128_156, s_128_157, s_128_158, s_128_159]; rfl
  · rw [Bool.not_eq_true] at h1
    have h3 : x.toInt < 0 ∨ 5 < x.toInt := by
      have : ¬ (0 ≤ x.toInt ∧ x.toInt < 6) := by unfold isr at h1; exact of_decide_eq_false h1
      omega
    refine opS_same (-1) hW (fun lx xs M hC Q => ?_) (fun lx xs M hC Q => ?_)
    · rw [s_25_0, sd_25_1 h3]
      simp only [s_25_96, s_25_97]
    · rw [l_X7_count hC hW, s_128_74, sd_128_75 h3]
      simp only [s_128_158, s_128_159]
end CN
