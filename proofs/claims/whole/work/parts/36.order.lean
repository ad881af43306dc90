/-! order: the first thing that can be told -/
def tl (S : Nat → Nat → Nat) (l t : Nat) : Bool := l.testBit t && decide (S 4 t &&& l = 0)
/-- the first thing of a set that needs none of it; 4: there is none -/
def ft (S : Nat → Nat → Nat) (l : Nat) : Nat := if tl S l 0 then 0 else if tl S l 1 then 1 else if tl S l 2 then 2 else if tl S l 3 then 3 else 4
section OR
variable {d : Nat} {Q : Option Value → ex_H → Prop} {lx : Nat} {xs : Nat → Int32} {M : Nat → Nat → Int32} {x y z : Int32} {S : Nat → Nat → Nat} {a b c j k l n t q s : Nat}
theorem l_X3_firstTellable (hC : RepC M 2 S) (hW : WF S) (hl : l < 16) (ht : t < 4) : Go (d + 1) 73 2 [some (.ref 2), some (.int (nI l)), some (.int (nI t))] [] (HP lx xs M) Q = if tl S l t = true then Q (some (.int (nI t))) (HP lx xs M) else Go (d + 1) 73 2 [some (.ref 2), some (.int (nI l)), some (.int (nI (t + 1)))] [] (HP lx xs M) Q := by
  obtain ⟨c1, c2, c3, c4, c5, c6, c7, c8, c9, c10, c11, c12⟩ := hC
  simp only [Nat.reduceAdd] at c8
  have e1 := c8 t ht
  have w7 := hW.2.2.2.2.2.2.1 t ht
  have e2 : S 4 t &&& l < 2147483648 := Nat.lt_of_le_of_lt Nat.and_le_left (by omega)
  rw [s_73_2]
  simp (disch := omega) only [s_73_0, s_73_1, s_73_3, s_73_4, s_73_7, s_73_8, s_73_9, s_73_12, s_73_15, s_73_16, s_73_19, s_73_20, s_73_21, s_73_22, s_73_23, s_73_26, s_73_27, s_73_28, s_73_31, s_73_34, s_73_36, ↓reduceIte, i_lt, ht, c_X6_has, ap_some, bI_0, i_in, i_cl, true_and, e1, i_and, i_e0, i_add]
  unfold tl
  by_cases h1 : l.testBit t = true
  · by_cases h2 : S 4 t &&& l = 0
    · simp only [h1, h2, Bool.true_eq_false, ↓reduceIte, decide_true, Bool.and_self]
    · simp only [h1, h2, Bool.true_eq_false, ↓reduceIte, decide_false, Bool.and_false, Bool.false_eq_true]
  · rw [Bool.not_eq_true] at h1
    simp only [h1, ↓reduceIte, Bool.false_and, Bool.false_eq_true]
theorem c_X3_firstTellable (hC : RepC M 2 S) (hW : WF S) (hl : l < 16) : Go (d + 1) 73 0 [some (.ref 2), some (.int (nI l)), none] [] (HP lx xs M) Q = Q (some (.int (if ft S l = 4 then -4 else nI (ft S l)))) (HP lx xs M) := by
  rw [s_73_0, s_73_1, l_X3_firstTellable hC hW hl (by decide), l_X3_firstTellable hC hW hl (by decide), l_X3_firstTellable hC hW hl (by decide), l_X3_firstTellable hC hW hl (by decide)]
  rw [s_73_2]
  simp only [s_73_3, s_73_4, s_73_34, s_73_36, Nat.reduceAdd, show (nI 4 < nI 4) = False by decide, ↓reduceIte]
  unfold ft
  cases tl S l 0 <;> cases tl S l 1 <;> cases tl S l 2 <;> cases tl S l 3 <;> simp
/-- the reference's best, from t down -/
theorem l_X7_order (hC : RepM M S) (hW : WF S) (hl : l < 16) (ht : t < 4) {o1 o2 o4 : Value} : Go (d + 1) 150 41 [some (.ref 53), some o1, some o2, some (.int (nI l)), some o4, some (.int x), some (.int (nI t))] [] (HP lx xs M) Q = Go (d + 1) 150 41 [some (.ref 53), some o1, some o2, some (.int (nI l)), some o4, some (.int (if tl S l t then nI t else x)), some (.int (nI t + (-1)))] [] (HP lx xs M) Q := by
  have e1 := hC.2.2.2.2.2.2.1 t ht
  have w7 := hW.2.2.2.2.2.2.1 t ht
  have e2 : S 4 t &&& l < 2147483648 := Nat.lt_of_le_of_lt Nat.and_le_left (by omega)
  rw [s_150_41]
  simp (disch := omega) only [s_150_43, s_150_46, s_150_47, s_150_49, s_150_52, s_150_55, s_150_56, s_150_59, s_150_61, s_150_62, s_150_63, s_150_64, s_150_67, s_150_69, s_150_72, s_150_74, s_150_76, s_150_79, ↓reduceIte, i_l0, c_X7_has, ap_some, bI_0, i_in, i_cl, true_and, e1, i_and, i_e0]
  unfold tl
  by_cases h1 : l.testBit t = true
  · by_cases h2 : S 4 t &&& l = 0
    · simp only [h1, h2, Bool.true_eq_false, ↓reduceIte, decide_true, Bool.and_self]
    · simp only [h1, h2, Bool.true_eq_false, ↓reduceIte, decide_false, Bool.and_false, Bool.false_eq_true]
  · rw [Bool.not_eq_true] at h1
    simp only [h1, ↓reduceIte, Bool.false_and, Bool.false_eq_true]
end OR
