/-! order: class and reference alike -/
def o6 (S : Nat → Nat → Nat) (i : Nat) : Nat → Nat → Nat → Int32 → Int32
  | 0, _, _, ans => ans
  | m + 1, l, p, ans => if l = 0 then ans else if ft S l = 4 then -4 else o6 S i m (wo l (2 ^ ft S l)) (p + 1) (if p = i then nI (ft S l) else ans)
theorem ft_bit (S : Nat → Nat → Nat) (l : Nat) (h : ¬ ft S l = 4) : ft S l < 4 ∧ l.testBit (ft S l) = true := by
  unfold ft at h ⊢
  unfold tl at h ⊢
  split at h <;> rename_i h0
  · rw [if_pos h0]; exact ⟨by decide, (Bool.and_eq_true_iff.mp h0).1⟩
  · rw [if_neg h0]
    split at h <;> rename_i h1
    · rw [if_pos h1]; exact ⟨by decide, (Bool.and_eq_true_iff.mp h1).1⟩
    · rw [if_neg h1]
      split at h <;> rename_i h2
      · rw [if_pos h2]; exact ⟨by decide, (Bool.and_eq_true_iff.mp h2).1⟩
      · rw [if_neg h2]
        split at h <;> rename_i h3
        · rw [if_pos h3]; exact ⟨by decide, (Bool.and_eq_true_iff.mp h3).1⟩
        · exact absurd rfl h
theorem pcn_wo : ∀ l, l < 16 → ∀ t, t < 4 → l.testBit t = true → pcn (wo l (2 ^ t)) + 1 = pcn l := by decide +kernel
theorem pcn_0 : ∀ l, l < 16 → pcn l = 0 → l = 0 := by decide +kernel
section OS
variable {d : Nat} {Q : Option Value → ex_H → Prop} {lx : Nat} {xs : Nat → Int32} {M : Nat → Nat → Int32} {x y z : Int32} {S : Nat → Nat → Nat} {a b c i j k l n t q s : Nat}
theorem ll_X6_order (hC : RepC M 2 S) (hW : WF S) (hi : i < 4) : ∀ m l p ans o6v, l < 16 → p + m = 4 → Go (d + 2) 32 27 [some (.ref 1), some (.int x), some (.int (nI i)), some (.int (nI l)), some (.int ans), some (.int (nI p)), o6v] [] (HP lx xs M) Q = Q (some (.int (o6 S i m l p ans))) (HP lx xs M) := by
  intro m
  induction m with
  | zero =>
    intro l p ans o6v hl hp
    have e : p = 4 := by omega
    subst e
    rw [s_32_27]
    simp only [s_32_29, s_32_30, s_32_82, s_32_84, show (nI 4 < nI 4) = False by decide, ↓reduceIte]
    rfl
  | succ m ih =>
    intro l p ans o6v hl hp
    have hp4 : p < 4 := by omega
    rw [s_32_27]
    unfold o6
    by_cases h0 : l = 0
    · simp (disch := omega) only [s_32_29, s_32_30, s_32_33, s_32_34, s_32_82, s_32_84, ↓reduceIte, i_lt, hp4, i_e0, h0]
    · by_cases h4 : ft S l = 4
      · simp (disch := omega) only [s_32_29, s_32_30, s_32_33, s_32_34, s_32_37, s_32_38, s_32_41, s_32_42, s_32_45, s_32_47, s_32_49, s_32_51, s_32_54, s_32_56, ↓reduceIte, i_lt, hp4, i_e0, h0, c_X3_firstTellable hC hW hl, h4, ap_some]
      · obtain ⟨f1, f2⟩ := ft_bit S l h4
        have n4 : (nI (ft S l) = -4) = False := eq_false fun q => by
          have := congrArg Int32.toInt q
          rw [i_int (by omega)] at this
          have h9 : (-4 : Int32).toInt = -4 := by decide
          omega
        have hl2 : wo l (2 ^ ft S l) < 16 := Nat.lt_of_le_of_lt (wo_le _ _) hl
        have step := fun a => ih (wo l (2 ^ ft S l)) (p + 1) a (some (.int (nI (ft S l)))) hl2 (by omega)
        by_cases hpi : p = i
        · subst hpi
          simp (disch := omega) only [s_32_29, s_32_30, s_32_33, s_32_34, s_32_37, s_32_38, s_32_41, s_32_42, s_32_45, s_32_47, s_32_49, s_32_51, s_32_54, s_32_56, s_32_57, s_32_59, s_32_60, s_32_63, s_32_65, s_32_67, s_32_68, s_32_69, s_32_71, s_32_72, s_32_73, s_32_74, s_32_75, s_32_76, s_32_79, ↓reduceIte, i_lt, hp4, i_e0, h0, c_X3_firstTellable hC hW hl, h4, ap_some, n4, i_eq, i_1s, i_wo, i_add]
          exact step _
        · simp (disch := omega) only [s_32_29, s_32_30, s_32_33, s_32_34, s_32_37, s_32_38, s_32_41, s_32_42, s_32_45, s_32_47, s_32_49, s_32_51, s_32_54, s_32_56, s_32_57, s_32_59, s_32_60, s_32_63, s_32_65, s_32_67, s_32_68, s_32_69, s_32_71, s_32_72, s_32_73, s_32_74, s_32_75, s_32_76, s_32_79, ↓reduceIte, i_lt, hp4, i_e0, h0, c_X3_firstTellable hC hW hl, h4, ap_some, n4, i_eq, hpi, i_1s, i_wo, i_add]
          exact step _
end OS
