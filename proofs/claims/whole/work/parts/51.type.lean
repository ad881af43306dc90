/-! type: class and reference alike -/
def bt (w : Int64) (i : Nat) : Nat := (w >>> ((nI (8 * i)).toInt64 &&& 63)).toBitVec.toNat % 256
theorem and255 (u : Int64) : u &&& lN 255 = lN (u.toBitVec.toNat % 256) := by
  apply Int64.toBitVec_inj.1
  show u.toBitVec &&& BitVec.ofNat 64 255 = BitVec.ofNat 64 (u.toBitVec.toNat % 256)
  apply BitVec.eq_of_toNat_eq
  rw [BitVec.toNat_and, BitVec.toNat_ofNat, BitVec.toNat_ofNat, show 255 % 2 ^ 64 = 2 ^ 8 - 1 from rfl, Nat.and_two_pow_sub_one_eq_mod, Nat.mod_eq_of_lt (a := u.toBitVec.toNat % 256) (by omega)]
theorem bt_lt (w : Int64) (i : Nat) : bt w i < 256 := Nat.mod_lt _ (by decide)
theorem nb_126 : ∀ b, b < 127 → (nI b).toInt8.toInt32 = nI b ∧ vp_nar .byte (nI b) = nI b := by decide +kernel
theorem sg (w : Int64) (i : Nat) : (w >>> ((nI (8 * i)).toInt64 &&& 63)) &&& lN 255 = lN (bt w i) := and255 _
theorem pre_0 : (nI 0 + -1 < 0) = True := by decide
theorem pre_s (j : Nat) : nI (j + 1) + -1 = nI j := by
  rw [← i_add, Int32.add_assoc, show nI 1 + -1 = (0 : Int32) by decide, Int32.add_zero]
theorem sub_1 (j : Nat) : nI j - nI 1 = nI j + -1 := by rw [Int32.sub_eq_add_neg]; rfl
theorem up_upr_c {M : Nat → Nat → Int32} {c c2 j : Nat} {f : Nat → Int32} {x : Int32} (h : c2 ≠ c) : up (upr M c f) c2 j x = upr (up M c2 j x) c f := by
  funext a
  by_cases h1 : a = c
  · subst h1; rw [up_ne _ _ _ (fun e => h e.symm), upr_eq, upr_eq]
  · rw [upr_ne _ _ h1]
    by_cases h2 : a = c2
    · subst h2; rw [up_eq, up_eq, upr_ne _ _ h1]
    · rw [up_ne _ _ _ h2, up_ne _ _ _ h2, upr_ne _ _ h1]
section TY
variable {d : Nat} {L : ex_L} {Q : Option Value → ex_H → Prop} {lx : Nat} {xs : Nat → Int32} {M : Nat → Nat → Int32} {x : Int32} {w : Int64} {S K : Nat → Nat → Nat} {hk : Bool} {n k nn i j m : Nat} {T : Nat → Nat} {Z : Nat → stZ} {o4 o5 : Option Value}
theorem c_X1_signOf (hi : i < 8) : Go d 79 0 [some (.long w), none, some (.int (nI i))] [] (HP lx xs M) Q = Q (some (.int (nI (bt w i)))) (HP lx xs M) := by
  simp (disch := omega) only [s_79_0, s_79_1, s_79_3, s_79_4, s_79_5, s_79_6, s_79_9, s_79_10, s_79_11, i_mul, sg]
  rw [lN_i]
theorem l_X1_append (hi : i < nn) (hn : nn ≤ 8) : Go (d + 1) 78 3 [some (.ref 28), some (.long w), none, some (.int (nI nn)), some (.int (nI i)), o5] [] (HP lx xs M) Q = if 32 ≤ bt w i ∧ bt w i ≤ 126 then Go (d + 1) 78 3 [some (.ref 28), some (.long w), none, some (.int (nI nn)), some (.int (nI (i + 1))), some (.int (nI (bt w i)))] [] (HP lx xs M) Q else Q (some (.int (-1))) (HP lx xs M) := by
  have hb := bt_lt w i
  rw [s_78_3]
  simp (disch := omega) only [s_78_5, s_78_6, s_78_9, s_78_10, s_78_12, s_78_15, s_78_17, s_78_19, s_78_21, s_78_24, s_78_26, s_78_28, s_78_31, s_78_32, s_78_33, s_78_36, ↓reduceIte, i_lt, hi, c_X1_signOf, ap_some, i_add]
  by_cases h1 : bt w i < 32
  · rw [if_pos h1, if_neg (by omega)]
  · rw [if_neg h1]
    by_cases h2 : 126 < bt w i
    · rw [if_pos h2, if_neg (by omega)]
    · rw [if_neg h2, if_pos (by omega)]
theorem ll_X1_append_ok (hn : nn ≤ 8) (h : ∀ k, k < nn → 32 ≤ bt w k ∧ bt w k ≤ 126) : ∀ m i o5, i + m = nn → ∃ o5', ∀ d Q, Go (d + 1) 78 3 [some (.ref 28), some (.long w), none, some (.int (nI nn)), some (.int (nI i)), o5] [] (HP lx xs M) Q = Go (d + 1) 78 39 [some (.ref 28), some (.long w), none, some (.int (nI nn)), some (.int (nI nn)), o5'] [] (HP lx xs M) Q := by
  intro m
  induction m with
  | zero =>
    intro i o5 hi
    have e : i = nn := by omega
    subst e
    refine ⟨o5, fun d Q => ?_⟩
    rw [s_78_3]
    simp (disch := omega) only [s_78_5, s_78_6, ↓reduceIte, i_lt, Nat.lt_irrefl]
  | succ m ih =>
    intro i o5 hi
    obtain ⟨o, r⟩ := ih (i + 1) (some (.int (nI (bt w i)))) (by omega)
    refine ⟨o, fun d Q => ?_⟩
    rw [l_X1_append (by omega) hn, if_pos (h i (by omega)), r]
theorem ll_X1_append_no (hn : nn ≤ 8) : ∀ m i o5, i + m = nn → (∃ k, i ≤ k ∧ k < nn ∧ ¬ (32 ≤ bt w k ∧ bt w k ≤ 126)) → ∀ d Q, Go (d + 1) 78 3 [some (.ref 28), some (.long w), none, some (.int (nI nn)), some (.int (nI i)), o5] [] (HP lx xs M) Q = Q (some (.int (-1))) (HP lx xs M) := by
  intro m
  induction m with
  | zero => intro i o5 hi ⟨k, h1, h2, h3⟩; omega
  | succ m ih =>
    intro i o5 hi ⟨k, h1, h2, h3⟩ d Q
    rw [l_X1_append (by omega) hn]
    by_cases h : 32 ≤ bt w i ∧ bt w i ≤ 126
    · rw [if_pos h]
      exact ih (i + 1) _ (by omega) ⟨k, by by_cases e : k = i; (subst e; exact absurd h h3); omega, h2, h3⟩ d Q
    · rw [if_neg h]
theorem in_bt (d : Nat) (Q : Option Value → ex_H → Prop) (i : Nat) : Go d 114 0 [some (.long (lN (bt w i))), none, some (.long (lN 32)), none, some (.long (lN 126)), none] [] (HP lx xs M) Q = Q (some (.int (bI (decide (32 ≤ bt w i ∧ bt w i ≤ 126))))) (HP lx xs M) := by
  have hb := bt_lt w i
  rw [c_X7_in, lN_toInt (by omega : bt w i < 2 ^ 31), lN_toInt (by decide : 32 < 2 ^ 31), lN_toInt (by decide : 126 < 2 ^ 31)]
  congr 4
  rw [Bool.eq_iff_iff]
  simp only [decide_eq_true_eq]
  omega
theorem l_X7_type (hi : i < 8) : Go (d + 1) 129 19 [some (.ref 53), some (.long w), none, some (.int x), some (.int (nI (i + 1) + -1))] [] (HP lx xs M) Q = if 32 ≤ bt w i ∧ bt w i ≤ 126 then Go (d + 1) 129 19 [some (.ref 53), some (.long w), none, some (.int x), some (.int (nI i + -1))] [] (HP lx xs M) Q else Q (some (.int (-1))) (HP lx xs M) := by
  have hb := bt_lt w i
  rw [pre_s, s_129_19]
  simp (disch := omega) only [s_129_21, s_129_24, s_129_25, s_129_27, s_129_29, s_129_30, s_129_31, s_129_34, s_129_35, s_129_38, s_129_41, s_129_44, s_129_47, s_129_48, s_129_49, s_129_52, ↓reduceIte, i_l0, i_mul, sg, in_bt, ap_some, bI_0]
  by_cases h1 : 32 ≤ bt w i ∧ bt w i ≤ 126
  · simp only [h1, and_self, decide_true, Bool.true_eq_false, ↓reduceIte]
  · simp only [h1, decide_false, ↓reduceIte]
theorem ll_X7_type_ok : ∀ m, m ≤ 8 → (∀ k, k < m → 32 ≤ bt w k ∧ bt w k ≤ 126) → ∀ d Q, Go (d + 1) 129 19 [some (.ref 53), some (.long w), none, some (.int x), some (.int (nI m + -1))] [] (HP lx xs M) Q = Go (d + 1) 129 55 [some (.ref 53), some (.long w), none, some (.int x), some (.int (nI 0 + -1))] [] (HP lx xs M) Q := by
  intro m
  induction m with
  | zero =>
    intro hm h d Q
    rw [s_129_19]
    simp only [s_129_21, ↓reduceIte, pre_0]
  | succ m ih =>
    intro hm h d Q
    rw [l_X7_type (by omega), if_pos (h m (by omega))]
    exact ih (by omega) (fun k hk => h k (by omega)) d Q
theorem ll_X7_type_no : ∀ m, m ≤ 8 → (∃ k, k < m ∧ ¬ (32 ≤ bt w k ∧ bt w k ≤ 126)) → ∀ d Q, Go (d + 1) 129 19 [some (.ref 53), some (.long w), none, some (.int x), some (.int (nI m + -1))] [] (HP lx xs M) Q = Q (some (.int (-1))) (HP lx xs M) := by
  intro m
  induction m with
  | zero => intro hm ⟨k, h1, h2⟩; omega
  | succ m ih =>
    intro hm ⟨k, h1, h2⟩ d Q
    rw [l_X7_type (by omega)]
    by_cases h : 32 ≤ bt w m ∧ bt w m ≤ 126
    · rw [if_pos h]
      exact ih (by omega) ⟨k, by by_cases e : k = m; (subst e; exact absurd h h2); omega, h2⟩ d Q
    · rw [if_neg h]
/-- the tape behind a call -/
def tpf (w : Int64) (nn n : Nat) : Nat → Int32 := fun k => nI (bt w (nn - 1 - (k - n)))
theorem l_X1_app2 (hn : nn ≤ 8) (hm : j + m + 1 = nn) (h160 : n + nn ≤ 160) (h : ∀ k, k < nn → 32 ≤ bt w k ∧ bt w k ≤ 126) : Go (d + 1) 78 59 [some (.ref 28), some (.long w), none, some (.int x), some (.int (nI (j + 1) + -1)), o5] [] (HP lx xs (upr (up M 28 4 (nI (n + m))) 34 (rng (M 34) (tpf w nn n) n m))) Q = Go (d + 1) 78 59 [some (.ref 28), some (.long w), none, some (.int x), some (.int (nI j + -1)), o5] [] (HP lx xs (upr (up M 28 4 (nI (n + (m + 1)))) 34 (rng (M 34) (tpf w nn n) n (m + 1)))) Q := by
  have hb := nb_126 (bt w j) (by have := h j (by omega); omega)
  have e : tpf w nn n (n + m) = nI (bt w j) := by unfold tpf; rw [show nn - 1 - (n + m - n) = j by omega]
  rw [pre_s, s_78_59]
  simp (disch := omega) only [s_78_61, s_78_64, s_78_65, s_78_68, s_78_69, s_78_70, s_78_73, s_78_74, s_78_75, s_78_76, s_78_79, s_78_80, s_78_82, s_78_85, s_78_86, s_78_87, s_78_90, ↓reduceIte, i_l0, upr_ne, up_at, i_add, c_X1_signOf, ap_some, hb.1, hb.2, i_in, i_cl, true_and, up_upr_c, up_up, up_upr]
  rw [← rng_up, e, Nat.add_assoc]
theorem ll_X1_app2 (hn : nn ≤ 8) (h160 : n + nn ≤ 160) (h : ∀ k, k < nn → 32 ≤ bt w k ∧ bt w k ≤ 126) : ∀ j m, j + m = nn → ∀ d Q, Go (d + 1) 78 59 [some (.ref 28), some (.long w), none, some (.int x), some (.int (nI j + -1)), o5] [] (HP lx xs (upr (up M 28 4 (nI (n + m))) 34 (rng (M 34) (tpf w nn n) n m))) Q = Q (some (.int (nI (n + nn)))) (HP lx xs (upr (up M 28 4 (nI (n + nn))) 34 (rng (M 34) (tpf w nn n) n nn))) := by
  intro j
  induction j with
  | zero =>
    intro m hm d Q
    have e : m = nn := by omega
    subst e
    rw [s_78_59]
    simp (disch := omega) only [s_78_61, s_78_93, s_78_94, s_78_97, ↓reduceIte, pre_0, upr_ne, up_at]
  | succ j ih =>
    intro m hm d Q
    rw [l_X1_app2 hn (by omega) h160 h]
    exact ih (m + 1) (by omega) d Q
theorem l_X7_typ2 (hn : nn ≤ 8) (hm : j + m + 1 = nn) (h160 : n + nn ≤ 160) (h : ∀ k, k < nn → 32 ≤ bt w k ∧ bt w k ≤ 126) : Go (d + 1) 129 75 [some (.ref 53), some (.long w), none, some (.int x), some (.int (nI (j + 1) + -1))] [] (HP lx xs (upr (up M 53 10 (nI (n + m))) 59 (rng (M 59) (tpf w nn n) n m))) Q = Go (d + 1) 129 75 [some (.ref 53), some (.long w), none, some (.int x), some (.int (nI j + -1))] [] (HP lx xs (upr (up M 53 10 (nI (n + (m + 1)))) 59 (rng (M 59) (tpf w nn n) n (m + 1)))) Q := by
  have hb := lN_i (bt w j)
  have e : tpf w nn n (n + m) = nI (bt w j) := by unfold tpf; rw [show nn - 1 - (n + m - n) = j by omega]
  rw [pre_s, s_129_75]
  simp (disch := omega) only [s_129_77, s_129_80, s_129_81, s_129_84, s_129_85, s_129_88, s_129_89, s_129_91, s_129_93, s_129_94, s_129_95, s_129_98, s_129_99, s_129_100, s_129_101, s_129_102, s_129_103, s_129_106, s_129_107, s_129_108, s_129_111, s_129_114, ↓reduceIte, i_l0, upr_ne, up_at, i_add, i_mul, sg, hb, i_in, i_cl, true_and, up_upr_c, up_up, up_upr]
  rw [← rng_up, e, Nat.add_assoc]
theorem ll_X7_typ2 (hn : nn ≤ 8) (h160 : n + nn ≤ 160) (h : ∀ k, k < nn → 32 ≤ bt w k ∧ bt w k ≤ 126) : ∀ j m, j + m = nn → ∀ d Q, Go (d + 1) 129 75 [some (.ref 53), some (.long w), none, some (.int x), some (.int (nI j + -1))] [] (HP lx xs (upr (up M 53 10 (nI (n + m))) 59 (rng (M 59) (tpf w nn n) n m))) Q = Q (some (.int (nI (n + nn)))) (HP lx xs (upr (up M 53 10 (nI (n + nn))) 59 (rng (M 59) (tpf w nn n) n nn))) := by
  intro j
  induction j with
  | zero =>
    intro m hm d Q
    have e : m = nn := by omega
    subst e
    rw [s_129_75]
    simp (disch := omega) only [s_129_77, s_129_117, s_129_118, s_129_121, ↓reduceIte, pre_0, upr_ne, up_at]
  | succ j ih =>
    intro m hm d Q
    rw [l_X7_typ2 hn (by omega) h160 h]
    exact ih (m + 1) (by omega) d Q
end TY
