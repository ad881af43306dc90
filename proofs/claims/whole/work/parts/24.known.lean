/-! what children know -/
/-- the things that a child knows, as bits, by how it says them (97: not) -/
def kn (sy : Nat → Nat) (c : Nat) : Nat := ((((0 ||| if sy (c * 4) < 97 then 1 else 0) ||| if sy (c * 4 + 1) < 97 then 2 else 0) ||| if sy (c * 4 + 2) < 97 then 4 else 0) ||| if sy (c * 4 + 3) < 97 then 8 else 0)
theorem kn_lt (sy : Nat → Nat) (c : Nat) : kn sy c < 16 := by
  unfold kn
  split <;> split <;> split <;> split <;> decide
theorem kn_bit (sy : Nat → Nat) (c : Nat) {t : Nat} (ht : t < 4) : (kn sy c).testBit t = decide (sy (c * 4 + t) < 97) := by
  unfold kn
  by_cases h0 : sy (c * 4) < 97 <;> by_cases h1 : sy (c * 4 + 1) < 97 <;> by_cases h2 : sy (c * 4 + 2) < 97 <;> by_cases h3 : sy (c * 4 + 3) < 97 <;> rcases (by omega : t = 0 ∨ t = 1 ∨ t = 2 ∨ t = 3) with rfl | rfl | rfl | rfl <;> simp only [h0, h1, h2, h3, if_true, if_false, Nat.add_zero] <;> decide
section KN
variable {d : Nat} {Q : Option Value → ex_H → Prop} {h : ex_H} {lx : Nat} {xs : Nat → Int32} {M : Nat → Nat → Int32} {x y z : Int32} {a b c j k n t q : Nat} {sy : Nat → Nat}
theorem l_X7_knownTo {s : Nat} (hc : c < 6) (ht : t < 4) (hs : ∀ i, i < 24 → M 56 i = nI (sy i)) (hb : ∀ i, i < 24 → sy i ≤ 97) : Go d 124 4 [some (.ref 53), some (.int (nI c)), some (.int (nI s)), some (.int (nI t))] [] (HP lx xs M) Q = Go d 124 4 [some (.ref 53), some (.int (nI c)), some (.int (nI (s ||| if sy (c * 4 + t) < 97 then 2 ^ t else 0))), some (.int (nI (t + 1)))] [] (HP lx xs M) Q := by
  have h0 := hs (4 * c + t) (by omega)
  have b0 := hb (4 * c + t) (by omega)
  rw [s_124_4]
  simp (disch := omega) only [s_124_0, s_124_1, s_124_2, s_124_3, s_124_5, s_124_6, s_124_9, s_124_10, s_124_11, s_124_14, s_124_15, s_124_16, s_124_17, s_124_18, s_124_19, s_124_20, s_124_22, s_124_25, s_124_26, s_124_27, s_124_28, s_124_31, s_124_32, s_124_33, s_124_34, s_124_37, s_124_40, s_124_41, i_add, i_mul, i_in, i_cl, true_and, i_lt, ht, if_true, h0, i_1s, i_or]
  rw [Nat.mul_comm 4 c]
  by_cases h1 : sy (c * 4 + t) < 97
  · simp only [h1, if_true]
  · simp only [h1, if_false]
theorem c_X7_knownTo (hc : c < 6) (hs : ∀ i, i < 24 → M 56 i = nI (sy i)) (hb : ∀ i, i < 24 → sy i ≤ 97) : Go d 124 0 [some (.ref 53), some (.int (nI c)), none, none] [] (HP lx xs M) Q = Q (some (.int (nI (kn sy c)))) (HP lx xs M) := by
  rw [s_124_0, s_124_1, s_124_2, s_124_3, l_X7_knownTo hc (by decide) hs hb, l_X7_knownTo hc (by decide) hs hb, l_X7_knownTo hc (by decide) hs hb, l_X7_knownTo hc (by decide) hs hb]
  simp only [s_124_4, s_124_5, s_124_6, s_124_40, s_124_41, Nat.reduceAdd, show (nI 4 < nI 4) = False by decide, if_false]
  rfl
end KN
