/-! child: a child comes -/
def flt (f g : Nat → Int32) (j : Nat) : Nat → Int32 := fun i => if i < j then f i else g i
theorem flt_0 (f g : Nat → Int32) : flt f g 0 = g := by funext i; unfold flt; simp
theorem flt_s (f g : Nat → Int32) (j : Nat) : upd (flt f g j) j (f j) = flt f g (j + 1) := by
  funext i
  by_cases h : i = j
  · subst h; rw [upd_at]; unfold flt; rw [if_pos (by omega)]
  · rw [upd_off h]; unfold flt
    by_cases h2 : i < j
    · rw [if_pos h2, if_pos (by omega)]
    · rw [if_neg h2, if_neg (by omega)]
theorem upr_self (M : Nat → Nat → Int32) (c : Nat) : upr M c (M c) = M := by
  funext c2; unfold upr; split
  · rename_i h; rw [h]
  · rfl
theorem upr_upr (M : Nat → Nat → Int32) (c : Nat) (f g : Nat → Int32) : upr (upr M c f) c g = upr M c g := by
  funext c2; unfold upr; split <;> rfl
theorem up_upr (M : Nat → Nat → Int32) (c j : Nat) (f : Nat → Int32) (x : Int32) : up (upr M c f) c j x = upr M c (upd f j x) := by
  unfold up; rw [upr_upr, upr_eq]
theorem up_is (M : Nat → Nat → Int32) (c j : Nat) (x : Int32) : up M c j x = upr M c (upd (M c) j x) := rfl
/-- the school with one child more -/
def addS (S : Nat → Nat → Nat) (k : Nat) : Nat → Nat → Nat := fun r i => if r = 0 then (if i = 0 then S 0 0 + 1 else S 0 i) else if r = 1 then (if i = S 0 0 then k else S 1 i) else if r = 2 then (if S 0 0 * 4 ≤ i ∧ i < S 0 0 * 4 + 4 then 97 else S 2 i) else if r = 3 then (if i < S 0 0 then S 3 i ||| 2 ^ S 0 0 else if i = S 0 0 then 2 ^ S 0 0 - 1 else S 3 i) else S r i
section CH
variable {d : Nat} {Q : Option Value → ex_H → Prop} {lx : Nat} {xs : Nat → Int32} {M : Nat → Nat → Int32} {x y z : Int32} {S : Nat → Nat → Nat} {a b c j k n t q : Nat} {e : Bool} {hf : Nat → Nat}
/-- a child's things become a set: all four are said anew -/
theorem l_X3_setKnown (hc : c < 6) (ht : t < 4) (hs : q < 16) (ha : a < 16) (hk : M 5 c = nI a) : Go (d + 2) 61 2 [some (.ref 2), some (.int (nI c)), some (.int (nI q)), some (.int (nI t))] [] (HP lx xs M) Q = Go (d + 2) 61 2 [some (.ref 2), some (.int (nI c)), some (.int (nI q)), some (.int (nI (t + 1)))] [] (HP lx xs (up (up M 4 (c * 4 + t) (nI (if q.testBit t then 0 else 97))) 5 c (nI (if q.testBit t then a ||| 2 ^ t else wo a (2 ^ t))))) Q := by
  rw [s_61_2]
  simp (disch := first | omega | assumption) only [s_61_0, s_61_1, s_61_3, s_61_4, s_61_7, s_61_8, s_61_9, s_61_10, s_61_11, s_61_12, s_61_15, s_61_18, s_61_19, s_61_22, s_61_24, s_61_27, s_61_30, s_61_33, c_X6_has, c_X3_setSaying (a := a), ap_some, ap_none, bI_0, i_lt, ht, if_true, i_add]
  cases q.testBit t <;> simp
theorem sk_bits : ∀ a, a < 16 → ∀ q, q < 16 → (let f := fun (a t : Nat) => if q.testBit t then a ||| 2 ^ t else wo a (2 ^ t); f (f (f (f a 0) 1) 2) 3) = q := by decide +kernel
theorem sk_lt {a q t : Nat} (ha : a < 16) (ht : t < 4) : (if q.testBit t then a ||| 2 ^ t else wo a (2 ^ t)) < 16 := by
  split
  · exact or_lt16 ha ht
  · exact Nat.lt_of_le_of_lt (wo_le _ _) ha
theorem up_up (M : Nat → Nat → Int32) (c j : Nat) (x y : Int32) : up (up M c j x) c j y = up M c j y := by
  unfold up; rw [upr_eq, upr_upr]; congr 1; funext i
  by_cases h : i = j
  · subst h; rw [upd_at, upd_at]
  · rw [upd_off h, upd_off h, upd_off h]
theorem up_comm (M : Nat → Nat → Int32) {c c2 j j2 : Nat} (x y : Int32) (h : c ≠ c2) : up (up M c j x) c2 j2 y = up (up M c2 j2 y) c j x := by
  funext a b
  by_cases h1 : a = c
  · subst h1
    rw [up_ne _ _ _ h]
    by_cases h3 : b = j
    · subst h3; rw [up_at, up_at]
    · rw [up_off h3, up_off h3, up_ne _ _ _ h]
  · by_cases h2 : a = c2
    · subst h2
      rw [up_ne (c := c) _ _ _ h1]
      by_cases h3 : b = j2
      · subst h3; rw [up_at, up_at]
      · rw [up_off h3, up_off h3, up_ne _ _ _ h1]
    · rw [up_ne _ _ _ h2, up_ne _ _ _ h1, up_ne _ _ _ h1, up_ne _ _ _ h2]
theorem c_X3_setKnown (hc : c < 6) (hs : q < 16) (hB : KB M 5) : Go (d + 2) 61 0 [some (.ref 2), some (.int (nI c)), some (.int (nI q)), none] [] (HP lx xs M) Q = Q none (HP lx xs (up (up (up (up (up M 4 (c * 4) (nI (if q.testBit 0 then 0 else 97))) 4 (c * 4 + 1) (nI (if q.testBit 1 then 0 else 97))) 4 (c * 4 + 2) (nI (if q.testBit 2 then 0 else 97))) 4 (c * 4 + 3) (nI (if q.testBit 3 then 0 else 97))) 5 c (nI q))) := by
  obtain ⟨a, ha, hk⟩ := hB c hc
  have a1 := sk_lt (q := q) ha (by decide : 0 < 4)
  have a2 := sk_lt (q := q) a1 (by decide : 1 < 4)
  have a3 := sk_lt (q := q) a2 (by decide : 2 < 4)
  rw [s_61_0, s_61_1, l_X3_setKnown hc (by decide) hs ha hk, l_X3_setKnown hc (by decide) hs a1 up_at, l_X3_setKnown hc (by decide) hs a2 up_at, l_X3_setKnown hc (by decide) hs a3 up_at]
  simp only [s_61_2, s_61_3, s_61_4, s_61_33, Nat.reduceAdd, show (nI 4 < nI 4) = False by decide, if_false]
  have e9 := sk_bits a ha q hs
  dsimp only at e9
  rw [e9]
  simp only [up_comm _ _ _ (by decide : (5 : Nat) ≠ 4), up_up, Nat.add_zero]
theorem l_X3_admit (hn : n < 6) (hj : j < n) (h6 : ∀ c, c < 6 → M 6 c = nI (hf c)) (b6 : ∀ c, c < 6 → hf c < 64) : Go d 62 19 [some (.ref 2), some (.int x), some (.int (nI n)), some (.int (nI j))] [] (HP lx xs (upr M 6 (flt (fun i => nI (hf i ||| 2 ^ n)) (M 6) j))) Q = Go d 62 19 [some (.ref 2), some (.int x), some (.int (nI n)), some (.int (nI (j + 1)))] [] (HP lx xs (upr M 6 (flt (fun i => nI (hf i ||| 2 ^ n)) (M 6) (j + 1)))) Q := by
  have e1 : flt (fun i => nI (hf i ||| 2 ^ n)) (M 6) j j = nI (hf j) := by unfold flt; rw [if_neg (by omega)]; exact h6 j (by omega)
  rw [s_62_19]
  simp (disch := omega) only [s_62_0, s_62_1, s_62_4, s_62_6, s_62_9, s_62_11, s_62_12, s_62_13, s_62_16, s_62_17, s_62_18, s_62_20, s_62_21, s_62_24, s_62_25, s_62_28, s_62_29, s_62_30, s_62_31, s_62_32, s_62_33, s_62_34, s_62_35, s_62_36, s_62_39, s_62_42, s_62_43, s_62_46, s_62_47, s_62_48, s_62_49, s_62_50, s_62_51, s_62_52, s_62_53, s_62_54, s_62_57, s_62_58, s_62_59, s_62_60, s_62_61, s_62_62, s_62_63, s_62_66, s_62_67, s_62_68, s_62_71, s_62_72, s_62_73, s_62_76, s_62_77, i_lt, hj, if_true, i_in, i_cl, true_and, upr_eq, e1, i_1s, i_or, i_add, up_upr]
  rw [← flt_s]
theorem ll_X3_admit (hn : n < 6) (h6 : ∀ c, c < 6 → M 6 c = nI (hf c)) (b6 : ∀ c, c < 6 → hf c < 64) : ∀ m j, j + m = n → Go d 62 19 [some (.ref 2), some (.int x), some (.int (nI n)), some (.int (nI j))] [] (HP lx xs (upr M 6 (flt (fun i => nI (hf i ||| 2 ^ n)) (M 6) j))) Q = Go d 62 19 [some (.ref 2), some (.int x), some (.int (nI n)), some (.int (nI n))] [] (HP lx xs (upr M 6 (flt (fun i => nI (hf i ||| 2 ^ n)) (M 6) n))) Q := by
  intro m
  induction m with
  | zero => intro j hj; rw [show j = n by omega]
  | succ m ih => intro j hj; rw [l_X3_admit hn (by omega) h6 b6]; exact ih (j + 1) (by omega)
theorem c_X3_admit (hn : n < 6) (hk : k < 4) (h0 : M 2 0 = nI n) (h6 : ∀ c, c < 6 → M 6 c = nI (hf c)) (b6 : ∀ c, c < 6 → hf c < 64) (hB : KB M 5) : Go (d + 3) 62 0 [some (.ref 2), some (.int (nI k)), none, none] [] (HP lx xs M) Q = Q (some (.int (nI n))) (HP lx xs (up (up (up (up (up (up (up (up (upr M 6 (flt (fun i => nI (hf i ||| 2 ^ n)) (M 6) n)) 6 n (nI (2 ^ n - 1))) 3 n (nI k)) 4 (n * 4) (nI 97)) 4 (n * 4 + 1) (nI 97)) 4 (n * 4 + 2) (nI 97)) 4 (n * 4 + 3) (nI 97)) 5 n (nI 0)) 2 0 (nI (n + 1)))) := by
  have hp : 0 < 2 ^ n := Nat.two_pow_pos n
  have z1 : Nat.testBit 0 0 = false := rfl
  have z2 : Nat.testBit 0 1 = false := rfl
  have z3 : Nat.testBit 0 2 = false := rfl
  have z4 : Nat.testBit 0 3 = false := rfl
  have hlt : (nI n < nI 6) = True := by rw [i_lt (by omega) (by omega)]; exact eq_true hn
  simp only [s_62_0, s_62_1, s_62_4, s_62_6, s_62_9, s_62_11, s_62_12, s_62_13, s_62_16, s_62_17, s_62_18, h0, hlt, if_true]
  have hM : M = upr M 6 (flt (fun i => nI (hf i ||| 2 ^ n)) (M 6) 0) := by rw [flt_0, upr_self]
  rw [show HP lx xs M = HP lx xs (upr M 6 (flt (fun i => nI (hf i ||| 2 ^ n)) (M 6) 0)) by rw [← hM]]
  rw [ll_X3_admit hn h6 b6 n 0 (by omega)]
  have hB2 : KB (up (up (upr M 6 (flt (fun i => nI (hf i ||| 2 ^ n)) (M 6) n)) 6 n (nI (2 ^ n - 1))) 3 n (nI k)) 5 := KB_ne (KB_ne (fun i hi => by rw [upr_ne _ _ (by decide)]; exact hB i hi) _ _ (by decide)) _ _ (by decide)
  have h20 : (upr M 6 (flt (fun i => nI (hf i ||| 2 ^ n)) (M 6) n)) 2 0 = nI n := by rw [upr_ne _ _ (by decide)]; exact h0
  rw [s_62_19]
  simp (disch := first | omega | exact hB2) only [s_62_20, s_62_21, s_62_42, s_62_43, s_62_46, s_62_47, s_62_48, s_62_49, s_62_50, s_62_51, s_62_52, s_62_53, s_62_54, s_62_57, s_62_58, s_62_59, s_62_60, s_62_61, s_62_62, s_62_63, s_62_66, s_62_67, s_62_68, s_62_71, s_62_72, s_62_73, s_62_76, s_62_77, i_lt, Nat.lt_irrefl, if_false, i_in, i_cl, true_and, i_1s, i_sub, c_X3_setKnown, ap_none, up_ne, h20, i_add, z1, z2, z3, z4, Bool.false_eq_true]
end CH
