/-! child: the reference's add, and both alike -/
theorem pw_or : ∀ j, j < 6 → (2 ^ j - 1) ||| 2 ^ j = 2 ^ (j + 1) - 1 := by decide
def hdG (g : Nat → Int32) (hf : Nat → Nat) (n j : Nat) : Nat → Int32 := fun i => if i = n then nI (2 ^ j - 1) else if i < j then nI (hf i ||| 2 ^ n) else g i
section CA
variable {d : Nat} {Q : Option Value → ex_H → Prop} {lx : Nat} {xs : Nat → Int32} {M : Nat → Nat → Int32} {x y z : Int32} {S : Nat → Nat → Nat} {a b c j k n t q : Nat} {e : Bool} {hf : Nat → Nat}
theorem hdG_s (hj : j < n) (hn : n < 6) {g : Nat → Int32} : upd (upd (hdG g hf n j) j (nI (hf j ||| 2 ^ n))) n (nI (2 ^ (j + 1) - 1)) = hdG g hf n (j + 1) := by
  funext i
  by_cases h1 : i = n
  · subst h1; rw [upd_at]; unfold hdG; rw [if_pos rfl]
  · rw [upd_off h1]
    by_cases h2 : i = j
    · subst h2; rw [upd_at]; unfold hdG; rw [if_neg h1, if_pos (by omega)]
    · rw [upd_off h2]; unfold hdG; rw [if_neg h1, if_neg h1]
      by_cases h3 : i < j
      · rw [if_pos h3, if_pos (by omega)]
      · rw [if_neg h3, if_neg (by omega)]
theorem l_X7_add (hn : n < 6) (hj : j < n) (h0 : M 53 4 = nI n) (h6 : ∀ c, c < 6 → M 55 c = nI (hf c)) (b6 : ∀ c, c < 6 → hf c < 64) : Go d 119 22 [some (.ref 53), some (.int x), some (.int (nI j))] [] (HP lx xs (upr M 55 (hdG (M 55) hf n j))) Q = Go d 119 22 [some (.ref 53), some (.int x), some (.int (nI (j + 1)))] [] (HP lx xs (upr M 55 (hdG (M 55) hf n (j + 1)))) Q := by
  have e1 : hdG (M 55) hf n j j = nI (hf j) := by unfold hdG; rw [if_neg (by omega), if_neg (by omega)]; exact h6 j (by omega)
  have e2 : hdG (M 55) hf n j n = nI (2 ^ j - 1) := by unfold hdG; rw [if_pos rfl]
  have e3 : (upr M 55 (hdG (M 55) hf n j)) 53 4 = nI n := by rw [upr_ne _ _ (by decide)]; exact h0
  have e4 : (upr M 55 (upd (hdG (M 55) hf n j) j (nI (hf j ||| 2 ^ n)))) 53 4 = nI n := by rw [upr_ne _ _ (by decide)]; exact h0
  rw [s_119_22]
  simp (disch := omega) only [s_119_0, s_119_1, s_119_4, s_119_5, s_119_8, s_119_9, s_119_10, s_119_11, s_119_14, s_119_15, s_119_18, s_119_19, s_119_20, s_119_21, s_119_23, s_119_24, s_119_27, s_119_30, s_119_31, s_119_34, s_119_35, s_119_36, s_119_37, s_119_38, s_119_39, s_119_42, s_119_43, s_119_44, s_119_45, s_119_46, s_119_49, s_119_50, s_119_53, s_119_54, s_119_55, s_119_56, s_119_57, s_119_58, s_119_59, s_119_60, s_119_63, s_119_66, s_119_67, s_119_69, s_119_70, s_119_73, s_119_74, s_119_77, s_119_78, s_119_79, s_119_82, s_119_83, s_119_84, s_119_85, s_119_87, s_119_88, s_119_91, s_119_94, s_119_95, s_119_96, s_119_99, s_119_100, s_119_101, s_119_104, ↓reduceIte, e3, i_lt, hj, i_in, i_cl, true_and, upr_eq, e1, i_1s, i_or, i_add, up_upr, e4, upd_off, e2, pw_or j]
  rw [hdG_s hj hn]
theorem ll_X7_add (hn : n < 6) (h0 : M 53 4 = nI n) (h6 : ∀ c, c < 6 → M 55 c = nI (hf c)) (b6 : ∀ c, c < 6 → hf c < 64) : ∀ m j, j + m = n → Go d 119 22 [some (.ref 53), some (.int x), some (.int (nI j))] [] (HP lx xs (upr M 55 (hdG (M 55) hf n j))) Q = Go d 119 22 [some (.ref 53), some (.int x), some (.int (nI n))] [] (HP lx xs (upr M 55 (hdG (M 55) hf n n))) Q := by
  intro m
  induction m with
  | zero => intro j hj; rw [show j = n by omega]
  | succ m ih => intro j hj; rw [l_X7_add hn (by omega) h0 h6 b6]; exact ih (j + 1) (by omega)
theorem l2_X7_add (hn : n < 6) (ht : t < 4) (h0 : M 53 4 = nI n) : Go d 119 68 [some (.ref 53), some (.int x), some (.int (nI t))] [] (HP lx xs M) Q = Go d 119 68 [some (.ref 53), some (.int x), some (.int (nI (t + 1)))] [] (HP lx xs (up M 56 (n * 4 + t) (nI 97))) Q := by
  rw [s_119_68]
  simp (disch := omega) only [s_119_0, s_119_1, s_119_4, s_119_5, s_119_8, s_119_9, s_119_10, s_119_11, s_119_14, s_119_15, s_119_18, s_119_19, s_119_20, s_119_21, s_119_22, s_119_23, s_119_24, s_119_27, s_119_30, s_119_31, s_119_34, s_119_35, s_119_36, s_119_37, s_119_38, s_119_39, s_119_42, s_119_43, s_119_44, s_119_45, s_119_46, s_119_49, s_119_50, s_119_53, s_119_54, s_119_55, s_119_56, s_119_57, s_119_58, s_119_59, s_119_60, s_119_63, s_119_66, s_119_67, s_119_69, s_119_70, s_119_73, s_119_74, s_119_77, s_119_78, s_119_79, s_119_82, s_119_83, s_119_84, s_119_85, s_119_87, s_119_88, s_119_91, s_119_94, s_119_95, s_119_96, s_119_99, s_119_100, s_119_101, s_119_104, h0, i_lt, ht, if_true, i_in, i_cl, true_and, i_add, i_mul]
  rw [Nat.mul_comm 4 n]
theorem c_X7_add (hn : n < 6) (hk : k < 4) (h0 : M 53 4 = nI n) (h6 : ∀ c, c < 6 → M 55 c = nI (hf c)) (b6 : ∀ c, c < 6 → hf c < 64) : Go d 119 0 [some (.ref 53), some (.int (nI k)), none] [] (HP lx xs M) Q = Q none (HP lx xs (up (up (up (up (up (upr (up M 54 n (nI k)) 55 (hdG (M 55) hf n n)) 56 (n * 4) (nI 97)) 56 (n * 4 + 1) (nI 97)) 56 (n * 4 + 2) (nI 97)) 56 (n * 4 + 3) (nI 97)) 53 4 (nI (n + 1)))) := by
  have e0 : (up M 54 n (nI k)) 55 = M 55 := up_ne _ _ _ (by decide)
  have e1 : up (up M 54 n (nI k)) 55 n (nI 0) = upr (up M 54 n (nI k)) 55 (hdG ((up M 54 n (nI k)) 55) hf n 0) := by
    rw [up_is, e0]; congr 1
  have h53 : (up M 54 n (nI k)) 53 4 = nI n := by rw [up_ne _ _ _ (by decide)]; exact h0
  simp (disch := omega) only [s_119_0, s_119_1, s_119_4, s_119_5, s_119_8, s_119_9, s_119_10, s_119_11, s_119_14, s_119_15, s_119_18, s_119_19, s_119_20, s_119_21, h0, i_in, i_cl, true_and, up_ne]
  rw [e1, ll_X7_add hn h53 (fun c hc => by rw [e0]; exact h6 c hc) b6 n 0 (by omega), e0]
  have g0 : (upr (up M 54 n (nI k)) 55 (hdG (M 55) hf n n)) 53 4 = nI n := by rw [upr_ne _ _ (by decide)]; exact h53
  rw [s_119_22]
  simp (disch := omega) only [s_119_23, s_119_24, s_119_27, s_119_66, s_119_67, g0, i_lt, Nat.lt_irrefl, if_false]
  rw [l2_X7_add hn (by decide) g0, l2_X7_add hn (by decide) (by rw [up_ne _ _ _ (by decide)]; exact g0), l2_X7_add hn (by decide) (by rw [up_ne _ _ _ (by decide), up_ne _ _ _ (by decide)]; exact g0), l2_X7_add hn (by decide) (by rw [up_ne _ _ _ (by decide), up_ne _ _ _ (by decide), up_ne _ _ _ (by decide)]; exact g0)]
  rw [s_119_68]
  simp (disch := omega) only [s_119_69, s_119_70, s_119_94, s_119_95, s_119_96, s_119_99, s_119_100, s_119_101, s_119_104, Nat.reduceAdd, show (nI 4 < nI 4) = False by decide, if_false, up_ne, g0, i_add, Nat.add_zero]
theorem addS_WF (hW : WF S) (hn : S 0 0 < 6) (hk : k < 4) : WF (addS S k) := by
  obtain ⟨w1, w2, w3, w4, w5, w6, w7, w8, w9⟩ := hW
  have hp : 2 ^ S 0 0 ≤ 32 := Nat.pow_le_pow_right (by decide) (by omega : S 0 0 ≤ 5)
  have hp0 : 0 < 2 ^ S 0 0 := Nat.two_pow_pos _
  refine ⟨?_, w2, ⟨w3.1, ?_⟩, ?_, ?_, ?_, w7, w8, ?_⟩
  · show S 0 0 + 1 ≤ 6; omega
  · intro c hc
    have hc : c < S 0 0 + 1 := hc
    show (if c < S 0 0 then S 3 c ||| 2 ^ S 0 0 else if c = S 0 0 then 2 ^ S 0 0 - 1 else S 3 c).testBit c = false
    by_cases h : c < S 0 0
    · rw [if_pos h, Nat.testBit_or, w3.2 c h, Nat.testBit_two_pow_of_ne (by omega)]; rfl
    · rw [if_neg h, if_pos (by omega), show c = S 0 0 by omega]
      exact Nat.testBit_lt_two_pow (by omega)
  · intro c hc
    show (if c = S 0 0 then k else S 1 c) < 4
    split
    · exact hk
    · exact w4 c hc
  · intro i hi
    show (if S 0 0 * 4 ≤ i ∧ i < S 0 0 * 4 + 4 then 97 else S 2 i) ≤ 97
    split
    · exact Nat.le_refl _
    · exact w5 i hi
  · intro c hc
    show (if c < S 0 0 then S 3 c ||| 2 ^ S 0 0 else if c = S 0 0 then 2 ^ S 0 0 - 1 else S 3 c) < 64
    split
    · exact or_lt (n := 6) (w6 c hc) (by omega)
    · split
      · omega
      · exact w6 c hc
  · intro i hi
    have h9 := w9 i hi
    refine ⟨?_, ?_, h9.2.2⟩
    · show S 6 i < S 0 0 + 1; omega
    · show S 7 i < S 0 0 + 1; omega
theorem addS_kn (c : Nat) (hc : c < S 0 0) : kn (addS S k 2) c = kn (S 2) c := kn_off fun t ht => by
  show (if S 0 0 * 4 ≤ c * 4 + t ∧ c * 4 + t < S 0 0 * 4 + 4 then 97 else S 2 (c * 4 + t)) = S 2 (c * 4 + t)
  rw [if_neg (by omega)]
theorem addS_kn0 : kn (addS S k 2) (S 0 0) = 0 := by
  have h : ∀ t, t < 4 → addS S k 2 (S 0 0 * 4 + t) = 97 := fun t ht => by
    show (if S 0 0 * 4 ≤ S 0 0 * 4 + t ∧ S 0 0 * 4 + t < S 0 0 * 4 + 4 then 97 else S 2 (S 0 0 * 4 + t)) = 97
    rw [if_pos (by omega)]
  refine kn_ext (kn_lt _ _) (by decide) fun t ht => ?_
  rw [kn_bit _ _ ht, h t ht, Nat.zero_testBit]
  rfl
end CA
