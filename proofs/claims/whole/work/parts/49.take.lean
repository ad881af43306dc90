/-! plans and schools taken over (written by gen5.py) -/
def hrc (S : Nat → Nat → Nat) (i : Nat) : Nat := if i = 0 then 0 else S 9 (i - 1) + 1
theorem hrc_s {S : Nat → Nat → Nat} (hW : WF S) {i : Nat} (hi : i < S 5 0) : hrc S (i + 1) = if opn S i = true then hrc S i + 1 else hrc S i := by
  obtain ⟨-, -, -, -, p9, p10⟩ := hW.2.2.2.2.2.2.2.2 i hi
  unfold hrc opn
  rw [if_neg (by omega), Nat.add_sub_cancel]
  by_cases h0 : i = 0
  · subst h0; simp; omega
  · have := p10 (by omega)
    by_cases h9 : S 9 i = S 9 (i - 1)
    · simp [h0, h9]
    · simp [h0, h9]; omega
theorem hrc_hrs (S : Nat → Nat → Nat) : hrc S (S 5 0) = hrs S := rfl
theorem hrc_le {S : Nat → Nat → Nat} (hW : WF S) {i : Nat} (hi : i ≤ S 5 0) : hrc S i ≤ i := by
  unfold hrc
  split
  · omega
  · obtain ⟨-, -, -, -, p9, p10⟩ := hW.2.2.2.2.2.2.2.2 (i - 1) (by omega)
    omega
/-- the first i teachings of the plan stand in the plan at cell o -/
def PRi (M : Nat → Nat → Int32) (o i : Nat) (S : Nat → Nat → Nat) : Prop := M o 0 = nI i ∧ M o 1 = nI (hrc S i) ∧ (∀ k, k < i → M (o + 1) k = nI ((S 6 k * 6 + S 7 k) * 4 + S 8 k)) ∧ (∀ k, k < i → M (o + 2) k = bI (opn S k))
theorem vp_b (b : Bool) : vp_nar .boolean (bI b) = bI b := by cases b <;> rfl
section TK
variable {d : Nat} {L : ex_L} {Q : Option Value → ex_H → Prop} {lx : Nat} {xs : Nat → Int32} {M : Nat → Nat → Int32} {S : Nat → Nat → Nat} {o i m q hh p : Nat} {b : Bool}
theorem c_X0_add (ho : o = 8 ∨ o = 21 ∨ o = 31) (h0 : M o 0 = nI m) (h1 : M o 1 = nI hh) (hm : m < 24) : Go (d + 1) 10 0 [some (.ref o), some (.int (nI q)), some (.int (bI b))] [] (HP lx xs M) Q = Q none (HP lx xs (up (up (up (up M (o + 1) m (nI q)) (o + 2) m (bI b)) o 0 (nI (m + 1))) o 1 (nI (if b = true then hh + 1 else hh)))) := by
  cases b
  · have e : up (up (up (up M (o + 1) m (nI q)) (o + 2) m (bI false)) o 0 (nI (m + 1))) o 1 (nI (if false = true then hh + 1 else hh)) = up (up (up M (o + 1) m (nI q)) (o + 2) m (bI false)) o 0 (nI (m + 1)) := up_same (by rw [up_off (by decide), up_ne _ _ _ (by omega), up_ne _ _ _ (by omega), h1]; rfl)
    rw [e]
    rcases ho with rfl | rfl | rfl <;> simp (disch := omega) only [s_10_0, s_10_1_8, s_10_1_21, s_10_1_31, s_10_4, s_10_7, s_10_8, s_10_9_8, s_10_9_21, s_10_9_31, s_10_12, s_10_13_8, s_10_13_21, s_10_13_31, s_10_16, s_10_17_9, s_10_17_22, s_10_17_32, s_10_18, s_10_19_8, s_10_19_21, s_10_19_31, s_10_22, s_10_23_8, s_10_23_21, s_10_23_31, s_10_26, s_10_27_10, s_10_27_23, s_10_27_33, s_10_28, s_10_29, s_10_30_8, s_10_30_21, s_10_30_31, s_10_33, s_10_34, s_10_35_8, s_10_35_21, s_10_35_31, s_10_38, s_10_39, s_10_42, s_10_43, s_10_44_8, s_10_44_21, s_10_44_31, s_10_47, s_10_48, s_10_49_8, s_10_49_21, s_10_49_31, s_10_52, s_9_0, s_9_1_8, s_9_1_21, s_9_1_31, s_9_4, s_9_6, s_9_9, s_9_10, s_9_13, s_9_14_0, s_9_14_1, sb_9_14, ↓reduceIte, h0, i_lt, hm, ap_some, n0_0, i_in, i_cl, true_and, up_ne, up_off, vp_b, bI_0, i_add, Nat.reduceAdd]
  · rcases ho with rfl | rfl | rfl <;> simp (disch := omega) only [s_10_0, s_10_1_8, s_10_1_21, s_10_1_31, s_10_4, s_10_7, s_10_8, s_10_9_8, s_10_9_21, s_10_9_31, s_10_12, s_10_13_8, s_10_13_21, s_10_13_31, s_10_16, s_10_17_9, s_10_17_22, s_10_17_32, s_10_18, s_10_19_8, s_10_19_21, s_10_19_31, s_10_22, s_10_23_8, s_10_23_21, s_10_23_31, s_10_26, s_10_27_10, s_10_27_23, s_10_27_33, s_10_28, s_10_29, s_10_30_8, s_10_30_21, s_10_30_31, s_10_33, s_10_34, s_10_35_8, s_10_35_21, s_10_35_31, s_10_38, s_10_39, s_10_42, s_10_43, s_10_44_8, s_10_44_21, s_10_44_31, s_10_47, s_10_48, s_10_49_8, s_10_49_21, s_10_49_31, s_10_52, s_9_0, s_9_1_8, s_9_1_21, s_9_1_31, s_9_4, s_9_6, s_9_9, s_9_10, s_9_13, s_9_14_0, s_9_14_1, sb_9_14, ↓reduceIte, h0, h1, i_lt, hm, ap_some, n0_0, i_in, i_cl, true_and, up_ne, up_off, vp_b, bI_0, i_add, Nat.reduceAdd, Bool.true_eq_false]
theorem PRi_add (hW : WF S) (hi : i < S 5 0) (h : PRi M o i S) : PRi (up (up (up (up M (o + 1) i (nI ((S 6 i * 6 + S 7 i) * 4 + S 8 i))) (o + 2) i (bI (opn S i))) o 0 (nI (i + 1))) o 1 (nI (if opn S i = true then hrc S i + 1 else hrc S i))) o (i + 1) S := by
  obtain ⟨a1, a2, a3, a4⟩ := h
  refine ⟨?_, ?_, fun k hk => ?_, fun k hk => ?_⟩
  · rw [up_off (by decide), up_at]
  · rw [up_at, hrc_s hW hi]
  · rw [up_ne _ _ _ (by omega), up_ne _ _ _ (by omega), up_ne _ _ _ (by omega)]
    by_cases e : k = i
    · subst e; rw [up_at]
    · rw [up_off e]; exact a3 k (by omega)
  · rw [up_ne _ _ _ (by omega), up_ne _ _ _ (by omega)]
    by_cases e : k = i
    · subst e; rw [up_at]
    · rw [up_off e, up_ne _ _ _ (by omega)]; exact a4 k (by omega)
theorem ll_X0_takeOver (hp : (o = 21 ∧ p = 8) ∨ (o = 8 ∧ p = 21) ∨ (o = 8 ∧ p = 31)) (hW : WF S) : ∀ m i, i + m = S 5 0 → ∀ M, PRi M o i S → PRi M p (S 5 0) S → ∃ M1, PRi M1 o (S 5 0) S ∧ (∀ c, c < o ∨ o + 2 < c → M1 c = M c) ∧ ∀ d Q, Go (d + 2) 11 6 [some (.ref o), some (.ref p), some (.int (nI i))] [] (HP lx xs M) Q = Q none (HP lx xs M1) := by
  intro m
  have w8 := hW.2.2.2.2.2.2.2.1
  induction m with
  | zero =>
    intro i hi M h1 h2
    have e : i = S 5 0 := by omega
    subst e
    refine ⟨M, h1, fun _ _ => rfl, fun d Q => ?_⟩
    have e0 := h2.1
    rw [s_11_6]
    rcases hp with ⟨rfl, rfl⟩ | ⟨rfl, rfl⟩ | ⟨rfl, rfl⟩ <;> simp (disch := omega) only [s_11_0, s_11_1_8, s_11_1_21, s_11_4, s_11_5, s_11_7, s_11_8_8, s_11_8_21, s_11_8_31, s_11_11, s_11_14, s_11_15, s_11_16_8, s_11_16_21, s_11_16_31, s_11_19, s_11_20_9, s_11_20_22, s_11_20_32, s_11_21, s_11_22_8, s_11_22_21, s_11_22_31, s_11_25, s_11_26_10, s_11_26_23, s_11_26_33, s_11_27_8, s_11_27_21, s_11_30, s_11_33, s_11_36, ↓reduceIte, e0, i_lt, Nat.lt_irrefl]
  | succ m ih =>
    intro i hi M h1 h2
    have hi2 : i < S 5 0 := by omega
    have hle := hrc_le hW (i := i) (by omega)
    obtain ⟨M1, r1, r2, r3⟩ := ih (i + 1) (by omega) _ (PRi_add hW hi2 h1) (by
      obtain ⟨a1, a2, a3, a4⟩ := h2
      refine ⟨?_, ?_, fun k hk => ?_, fun k hk => ?_⟩
      · rw [up_ne _ _ _ (by omega), up_ne _ _ _ (by omega), up_ne _ _ _ (by omega), up_ne _ _ _ (by omega)]; exact a1
      · rw [up_ne _ _ _ (by omega), up_ne _ _ _ (by omega), up_ne _ _ _ (by omega), up_ne _ _ _ (by omega)]; exact a2
      · rw [up_ne _ _ _ (by omega), up_ne _ _ _ (by omega), up_ne _ _ _ (by omega), up_ne _ _ _ (by omega)]; exact a3 k hk
      · rw [up_ne _ _ _ (by omega), up_ne _ _ _ (by omega), up_ne _ _ _ (by omega), up_ne _ _ _ (by omega)]; exact a4 k hk)
    refine ⟨M1, r1, fun c hc => (r2 c hc).trans (by rw [up_ne _ _ _ (by omega), up_ne _ _ _ (by omega), up_ne _ _ _ (by omega), up_ne _ _ _ (by omega)]), fun d Q => ?_⟩
    obtain ⟨a1, a2, a3, a4⟩ := h2
    have e3 := a3 i hi2
    have e4 := a4 i hi2
    have ad : ∀ d Q, Go (d + 1) 10 0 [some (.ref o), some (.int (nI ((S 6 i * 6 + S 7 i) * 4 + S 8 i))), some (.int (bI (opn S i)))] [] (HP lx xs M) Q = Q none (HP lx xs (up (up (up (up M (o + 1) i (nI ((S 6 i * 6 + S 7 i) * 4 + S 8 i))) (o + 2) i (bI (opn S i))) o 0 (nI (i + 1))) o 1 (nI (if opn S i = true then hrc S i + 1 else hrc S i)))) := fun d Q => c_X0_add (by omega) h1.1 h1.2.1 (by omega)
    generalize up (up (up (up M (o + 1) i (nI ((S 6 i * 6 + S 7 i) * 4 + S 8 i))) (o + 2) i (bI (opn S i))) o 0 (nI (i + 1))) o 1 (nI (if opn S i = true then hrc S i + 1 else hrc S i)) = N at ad r3
    rw [s_11_6]
    rcases hp with ⟨rfl, rfl⟩ | ⟨rfl, rfl⟩ | ⟨rfl, rfl⟩ <;> simp only [Nat.reduceAdd] at e3 e4 <;> simp (disch := omega) only [s_11_0, s_11_1_8, s_11_1_21, s_11_4, s_11_5, s_11_7, s_11_8_8, s_11_8_21, s_11_8_31, s_11_11, s_11_14, s_11_15, s_11_16_8, s_11_16_21, s_11_16_31, s_11_19, s_11_20_9, s_11_20_22, s_11_20_32, s_11_21, s_11_22_8, s_11_22_21, s_11_22_31, s_11_25, s_11_26_10, s_11_26_23, s_11_26_33, s_11_27_8, s_11_27_21, s_11_30, s_11_33, s_11_36, ↓reduceIte, a1, i_lt, hi2, i_in, i_cl, true_and, e3, e4, ad, ap_none, i_add, r3]
theorem c_X0_takeOver (hp : (o = 21 ∧ p = 8) ∨ (o = 8 ∧ p = 21) ∨ (o = 8 ∧ p = 31)) (hW : WF S) (h2 : PRi M p (S 5 0) S) : ∃ M1, PRi M1 o (S 5 0) S ∧ (∀ c, c < o ∨ o + 2 < c → M1 c = M c) ∧ ∀ d Q, Go (d + 2) 11 0 [some (.ref o), some (.ref p), none] [] (HP lx xs M) Q = Q none (HP lx xs M1) := by
  obtain ⟨M1, r1, r2, r3⟩ := ll_X0_takeOver (lx := lx) (xs := xs) hp hW (S 5 0) 0 (by omega) (up (up M o 0 (nI 0)) o 1 (nI 0)) ⟨by rw [up_off (by decide), up_at], by rw [up_at]; rfl, fun k hk => by omega, fun k hk => by omega⟩ (by
      obtain ⟨a1, a2, a3, a4⟩ := h2
      refine ⟨?_, ?_, fun k hk => ?_, fun k hk => ?_⟩
      · rw [up_ne _ _ _ (by omega), up_ne _ _ _ (by omega)]; exact a1
      · rw [up_ne _ _ _ (by omega), up_ne _ _ _ (by omega)]; exact a2
      · rw [up_ne _ _ _ (by omega), up_ne _ _ _ (by omega)]; exact a3 k hk
      · rw [up_ne _ _ _ (by omega), up_ne _ _ _ (by omega)]; exact a4 k hk)
  refine ⟨M1, r1, fun c hc => (r2 c hc).trans (by rw [up_ne _ _ _ (by omega), up_ne _ _ _ (by omega)]), fun d Q => ?_⟩
  rcases hp with ⟨rfl, rfl⟩ | ⟨rfl, rfl⟩ | ⟨rfl, rfl⟩ <;> simp (disch := omega) only [s_11_0, s_11_1_8, s_11_1_21, s_11_4, s_11_5, s_8_0, s_8_1, s_8_2_8, s_8_2_21, s_8_2_31, s_8_5, s_8_6, s_8_7_8, s_8_7_21, s_8_7_31, s_8_10, ap_none, r3]
theorem cp64_36_15 : Go (d + 1) 64 36 L [.int (nI 6), .int (nI 0), .ref 16, .int (nI 0), .ref 3] (HP lx xs M) Q = Go (d + 1) 64 39 L [] (HP lx xs (upr M 16 (va_cpy (M 3) (M 16) 0 0 6))) Q := go_cp (v := 0) rfl rfl rfl (by decide) (by decide) (by decide) (by decide) hs_16
theorem cp64_51_15 : Go (d + 1) 64 51 L [.int (nI 24), .int (nI 0), .ref 17, .int (nI 0), .ref 4] (HP lx xs M) Q = Go (d + 1) 64 54 L [] (HP lx xs (upr M 17 (va_cpy (M 4) (M 17) 0 0 24))) Q := go_cp (v := 0) rfl rfl rfl (by decide) (by decide) (by decide) (by decide) hs_17
theorem cp64_66_15 : Go (d + 1) 64 66 L [.int (nI 6), .int (nI 0), .ref 18, .int (nI 0), .ref 5] (HP lx xs M) Q = Go (d + 1) 64 69 L [] (HP lx xs (upr M 18 (va_cpy (M 5) (M 18) 0 0 6))) Q := go_cp (v := 0) rfl rfl rfl (by decide) (by decide) (by decide) (by decide) hs_18
theorem cp64_81_15 : Go (d + 1) 64 81 L [.int (nI 6), .int (nI 0), .ref 19, .int (nI 0), .ref 6] (HP lx xs M) Q = Go (d + 1) 64 84 L [] (HP lx xs (upr M 19 (va_cpy (M 6) (M 19) 0 0 6))) Q := go_cp (v := 0) rfl rfl rfl (by decide) (by decide) (by decide) (by decide) hs_19
theorem cp64_95_15 : Go (d + 1) 64 95 L [.int (nI 4), .int (nI 0), .ref 20, .int (nI 0), .ref 7] (HP lx xs M) Q = Go (d + 1) 64 98 L [] (HP lx xs (upr M 20 (va_cpy (M 7) (M 20) 0 0 4))) Q := go_cp (v := 0) rfl rfl rfl (by decide) (by decide) (by decide) (by decide) hs_20
theorem c_take_15 (hW : WF S) (hC : RepC M 2 S) (hB : KB M 5) : ∃ M1, RepC M1 15 S ∧ KB M1 18 ∧ (∀ c, c < 15 ∨ 23 < c → M1 c = M c) ∧ ∀ d Q, Go (d + 3) 64 0 [some (.ref 15), some (.ref 2)] [] (HP lx xs M) Q = Q none (HP lx xs M1) := by
  obtain ⟨c1, c2, c3, c4, c5, c6, c7, c8, c9, c10, c11, c12⟩ := hC
  simp only [Nat.reduceAdd] at c4 c5 c6 c7 c8 c9 c10 c11 c12
  have w1 := hW.1
  have cpy : ∀ (f g : Nat → Int32) (n k : Nat), k < n → va_cpy f g 0 0 n k = f k := fun f g n k hk => by unfold va_cpy; rw [if_pos (by omega), show 0 + (k - 0) = k by omega]
  obtain ⟨N, hN⟩ : ∃ N, N = upr (upr (upr (upr (upr (up (up (up M 15 0 (M 2 0)) 15 1 (M 2 1)) 15 2 (M 2 2)) 16 (va_cpy (M 3) (M 16) 0 0 6)) 17 (va_cpy (M 4) (M 17) 0 0 24)) 18 (va_cpy (M 5) (M 18) 0 0 6)) 19 (va_cpy (M 6) (M 19) 0 0 6)) 20 (va_cpy (M 7) (M 20) 0 0 4) := ⟨_, rfl⟩
  have nf : ∀ c, c < 15 ∨ 20 < c → N c = M c := fun c hc => by rw [hN, upr_ne _ _ (by omega), upr_ne _ _ (by omega), upr_ne _ _ (by omega), upr_ne _ _ (by omega), upr_ne _ _ (by omega), up_ne _ _ _ (by omega), up_ne _ _ _ (by omega), up_ne _ _ _ (by omega)]
  obtain ⟨M1, r1, r2, r3⟩ := c_X0_takeOver (lx := lx) (xs := xs) (M := N) (S := S) (o := 21) (p := 8) (by omega) hW ⟨by rw [nf _ (by omega)]; exact c9, by rw [nf _ (by omega)]; exact c10, fun k hk => by rw [nf _ (by omega)]; exact c11 k hk, fun k hk => by rw [nf _ (by omega)]; exact c12 k hk⟩
  have n0 : N 15 0 = M 2 0 := by rw [hN]; simp (disch := omega) only [upr_ne, up_off, up_at]
  have n1 : N 15 1 = M 2 1 := by rw [hN]; simp (disch := omega) only [upr_ne, up_off, up_at]
  have n2 : N 15 2 = M 2 2 := by rw [hN]; simp (disch := omega) only [upr_ne, up_off, up_at]
  have m1 : ∀ k, k < 6 → M1 16 k = M 3 k := fun k hk => by rw [r2 _ (by omega), hN]; simp (disch := omega) only [upr_ne, upr_eq, cpy]
  have m2 : ∀ k, k < 24 → M1 17 k = M 4 k := fun k hk => by rw [r2 _ (by omega), hN]; simp (disch := omega) only [upr_ne, upr_eq, cpy]
  have m3 : ∀ k, k < 6 → M1 18 k = M 5 k := fun k hk => by rw [r2 _ (by omega), hN]; simp (disch := omega) only [upr_ne, upr_eq, cpy]
  have m4 : ∀ k, k < 6 → M1 19 k = M 6 k := fun k hk => by rw [r2 _ (by omega), hN]; simp (disch := omega) only [upr_ne, upr_eq, cpy]
  have m5 : ∀ k, k < 4 → M1 20 k = M 7 k := fun k hk => by rw [r2 _ (by omega), hN]; simp (disch := omega) only [upr_ne, upr_eq, cpy]
  have mm : ∀ j, M1 15 j = N 15 j := fun j => by rw [r2 _ (by omega)]
  refine ⟨M1, ⟨?_, ?_, ?_, ?_, ?_, ?_, ?_, ?_, ?_, ?_, ?_, ?_⟩, fun i hi => ?_, fun c hc => (r2 c (by omega)).trans (nf c (by omega)), fun d Q => ?_⟩
  all_goals try simp only [Nat.reduceAdd]
  · rw [mm, n0]; exact c1
  · rw [mm, n1]; exact c2
  · rw [mm, n2]; exact c3
  · intro c hc; rw [m1 c hc]; exact c4 c hc
  · intro c hc; rw [m2 c hc]; exact c5 c hc
  · intro c hc; rw [m3 c (by omega)]; exact c6 c hc
  · intro c hc; rw [m4 c hc]; exact c7 c hc
  · intro c hc; rw [m5 c hc]; exact c8 c hc
  · exact r1.1
  · exact r1.2.1
  · exact r1.2.2.1
  · exact r1.2.2.2
  · rw [m3 i hi]; exact hB i hi
  · rw [hN] at r3
    simp (disch := omega) only [s_64_0, s_64_1, s_64_2_2, s_64_2_15, s_64_5_2, s_64_5_15, s_64_8, s_64_9, s_64_10_2, s_64_10_15, s_64_13_2, s_64_13_15, s_64_16, s_64_17, s_64_18_2, s_64_18_15, s_64_21_2, s_64_21_15, s_64_24, s_64_25_2, s_64_25_15, s_64_28, s_64_29, s_64_30_2, s_64_30_15, s_64_33, s_64_34, s_64_39, s_64_40_2, s_64_40_15, s_64_43, s_64_44, s_64_45_2, s_64_45_15, s_64_48, s_64_49, s_64_54, s_64_55_2, s_64_55_15, s_64_58, s_64_59, s_64_60_2, s_64_60_15, s_64_63, s_64_64, s_64_69, s_64_70_2, s_64_70_15, s_64_73, s_64_74, s_64_75_2, s_64_75_15, s_64_78, s_64_79, s_64_84, s_64_85_2, s_64_85_15, s_64_88, s_64_89, s_64_90_2, s_64_90_15, s_64_93, s_64_94, s_64_98, s_64_99_2, s_64_99_15, s_64_102, s_64_103_2, s_64_103_15, s_64_106_8, s_64_106_21, s_64_109, cp64_36_15, cp64_51_15, cp64_66_15, cp64_81_15, cp64_95_15, up_ne, upr_ne, up_off, r3, ap_none]
theorem cp64_36_2 : Go (d + 1) 64 36 L [.int (nI 6), .int (nI 0), .ref 3, .int (nI 0), .ref 16] (HP lx xs M) Q = Go (d + 1) 64 39 L [] (HP lx xs (upr M 3 (va_cpy (M 16) (M 3) 0 0 6))) Q := go_cp (v := 0) rfl rfl rfl (by decide) (by decide) (by decide) (by decide) hs_3
theorem cp64_51_2 : Go (d + 1) 64 51 L [.int (nI 24), .int (nI 0), .ref 4, .int (nI 0), .ref 17] (HP lx xs M) Q = Go (d + 1) 64 54 L [] (HP lx xs (upr M 4 (va_cpy (M 17) (M 4) 0 0 24))) Q := go_cp (v := 0) rfl rfl rfl (by decide) (by decide) (by decide) (by decide) hs_4
theorem cp64_66_2 : Go (d + 1) 64 66 L [.int (nI 6), .int (nI 0), .ref 5, .int (nI 0), .ref 18] (HP lx xs M) Q = Go (d + 1) 64 69 L [] (HP lx xs (upr M 5 (va_cpy (M 18) (M 5) 0 0 6))) Q := go_cp (v := 0) rfl rfl rfl (by decide) (by decide) (by decide) (by decide) hs_5
theorem cp64_81_2 : Go (d + 1) 64 81 L [.int (nI 6), .int (nI 0), .ref 6, .int (nI 0), .ref 19] (HP lx xs M) Q = Go (d + 1) 64 84 L [] (HP lx xs (upr M 6 (va_cpy (M 19) (M 6) 0 0 6))) Q := go_cp (v := 0) rfl rfl rfl (by decide) (by decide) (by decide) (by decide) hs_6
theorem cp64_95_2 : Go (d + 1) 64 95 L [.int (nI 4), .int (nI 0), .ref 7, .int (nI 0), .ref 20] (HP lx xs M) Q = Go (d + 1) 64 98 L [] (HP lx xs (upr M 7 (va_cpy (M 20) (M 7) 0 0 4))) Q := go_cp (v := 0) rfl rfl rfl (by decide) (by decide) (by decide) (by decide) hs_7
theorem c_take_2 (hW : WF S) (hC : RepC M 15 S) (hB : KB M 18) : ∃ M1, RepC M1 2 S ∧ KB M1 5 ∧ (∀ c, c < 2 ∨ 10 < c → M1 c = M c) ∧ ∀ d Q, Go (d + 3) 64 0 [some (.ref 2), some (.ref 15)] [] (HP lx xs M) Q = Q none (HP lx xs M1) := by
  obtain ⟨c1, c2, c3, c4, c5, c6, c7, c8, c9, c10, c11, c12⟩ := hC
  simp only [Nat.reduceAdd] at c4 c5 c6 c7 c8 c9 c10 c11 c12
  have w1 := hW.1
  have cpy : ∀ (f g : Nat → Int32) (n k : Nat), k < n → va_cpy f g 0 0 n k = f k := fun f g n k hk => by unfold va_cpy; rw [if_pos (by omega), show 0 + (k - 0) = k by omega]
  obtain ⟨N, hN⟩ : ∃ N, N = upr (upr (upr (upr (upr (up (up (up M 2 0 (M 15 0)) 2 1 (M 15 1)) 2 2 (M 15 2)) 3 (va_cpy (M 16) (M 3) 0 0 6)) 4 (va_cpy (M 17) (M 4) 0 0 24)) 5 (va_cpy (M 18) (M 5) 0 0 6)) 6 (va_cpy (M 19) (M 6) 0 0 6)) 7 (va_cpy (M 20) (M 7) 0 0 4) := ⟨_, rfl⟩
  have nf : ∀ c, c < 2 ∨ 7 < c → N c = M c := fun c hc => by rw [hN, upr_ne _ _ (by omega), upr_ne _ _ (by omega), upr_ne _ _ (by omega), upr_ne _ _ (by omega), upr_ne _ _ (by omega), up_ne _ _ _ (by omega), up_ne _ _ _ (by omega), up_ne _ _ _ (by omega)]
  obtain ⟨M1, r1, r2, r3⟩ := c_X0_takeOver (lx := lx) (xs := xs) (M := N) (S := S) (o := 8) (p := 21) (by omega) hW ⟨by rw [nf _ (by omega)]; exact c9, by rw [nf _ (by omega)]; exact c10, fun k hk => by rw [nf _ (by omega)]; exact c11 k hk, fun k hk => by rw [nf _ (by omega)]; exact c12 k hk⟩
  have n0 : N 2 0 = M 15 0 := by rw [hN]; simp (disch := omega) only [upr_ne, up_off, up_at]
  have n1 : N 2 1 = M 15 1 := by rw [hN]; simp (disch := omega) only [upr_ne, up_off, up_at]
  have n2 : N 2 2 = M 15 2 := by rw [hN]; simp (disch := omega) only [upr_ne, up_off, up_at]
  have m1 : ∀ k, k < 6 → M1 3 k = M 16 k := fun k hk => by rw [r2 _ (by omega), hN]; simp (disch := omega) only [upr_ne, upr_eq, cpy]
  have m2 : ∀ k, k < 24 → M1 4 k = M 17 k := fun k hk => by rw [r2 _ (by omega), hN]; simp (disch := omega) only [upr_ne, upr_eq, cpy]
  have m3 : ∀ k, k < 6 → M1 5 k = M 18 k := fun k hk => by rw [r2 _ (by omega), hN]; simp (disch := omega) only [upr_ne, upr_eq, cpy]
  have m4 : ∀ k, k < 6 → M1 6 k = M 19 k := fun k hk => by rw [r2 _ (by omega), hN]; simp (disch := omega) only [upr_ne, upr_eq, cpy]
  have m5 : ∀ k, k < 4 → M1 7 k = M 20 k := fun k hk => by rw [r2 _ (by omega), hN]; simp (disch := omega) only [upr_ne, upr_eq, cpy]
  have mm : ∀ j, M1 2 j = N 2 j := fun j => by rw [r2 _ (by omega)]
  refine ⟨M1, ⟨?_, ?_, ?_, ?_, ?_, ?_, ?_, ?_, ?_, ?_, ?_, ?_⟩, fun i hi => ?_, fun c hc => (r2 c (by omega)).trans (nf c (by omega)), fun d Q => ?_⟩
  all_goals try simp only [Nat.reduceAdd]
  · rw [mm, n0]; exact c1
  · rw [mm, n1]; exact c2
  · rw [mm, n2]; exact c3
  · intro c hc; rw [m1 c hc]; exact c4 c hc
  · intro c hc; rw [m2 c hc]; exact c5 c hc
  · intro c hc; rw [m3 c (by omega)]; exact c6 c hc
  · intro c hc; rw [m4 c hc]; exact c7 c hc
  · intro c hc; rw [m5 c hc]; exact c8 c hc
  · exact r1.1
  · exact r1.2.1
  · exact r1.2.2.1
  · exact r1.2.2.2
  · rw [m3 i hi]; exact hB i hi
  · rw [hN] at r3
    simp (disch := omega) only [s_64_0, s_64_1, s_64_2_2, s_64_2_15, s_64_5_2, s_64_5_15, s_64_8, s_64_9, s_64_10_2, s_64_10_15, s_64_13_2, s_64_13_15, s_64_16, s_64_17, s_64_18_2, s_64_18_15, s_64_21_2, s_64_21_15, s_64_24, s_64_25_2, s_64_25_15, s_64_28, s_64_29, s_64_30_2, s_64_30_15, s_64_33, s_64_34, s_64_39, s_64_40_2, s_64_40_15, s_64_43, s_64_44, s_64_45_2, s_64_45_15, s_64_48, s_64_49, s_64_54, s_64_55_2, s_64_55_15, s_64_58, s_64_59, s_64_60_2, s_64_60_15, s_64_63, s_64_64, s_64_69, s_64_70_2, s_64_70_15, s_64_73, s_64_74, s_64_75_2, s_64_75_15, s_64_78, s_64_79, s_64_84, s_64_85_2, s_64_85_15, s_64_88, s_64_89, s_64_90_2, s_64_90_15, s_64_93, s_64_94, s_64_98, s_64_99_2, s_64_99_15, s_64_102, s_64_103_2, s_64_103_15, s_64_106_8, s_64_106_21, s_64_109, cp64_36_2, cp64_51_2, cp64_66_2, cp64_81_2, cp64_95_2, up_ne, upr_ne, up_off, r3, ap_none]
end TK
