/-! numbers, and the methods without loops -/
def bI (b : Bool) : Int32 := if b then nI 1 else nI 0
theorem bI_0 (b : Bool) : (bI b = 0) = (b = false) := by cases b <;> decide
theorem bI_t : bI true = nI 1 := rfl
theorem bI_f : bI false = nI 0 := rfl
theorem n0_0 : (nI 0 = 0) = True := by decide
theorem n1_0 : (nI 1 = 0) = False := by decide
/-- a number from 0 on, below n -/
def isr (x : Int32) (n : Nat) : Bool := decide (¬ x < 0 ∧ x < nI n)
theorem isr_of {x : Int32} {n : Nat} (h : isr x n = true) : ∃ j : Nat, j < n ∧ x = nI j := by
  obtain ⟨h1, h2⟩ := of_decide_eq_true h
  obtain ⟨j, hj, rfl⟩ := nI_of h1
  have hn : n < 2 ^ 31 ∨ ¬ n < 2 ^ 31 := Decidable.em _
  rcases hn with hn | hn
  · exact ⟨j, (nI_ltI hj hn).mp h2, rfl⟩
  · exact ⟨j, by omega, rfl⟩
theorem isr_nI {j n : Nat} (hj : j < 2 ^ 31) (hn : n < 2 ^ 31) : isr (nI j) n = decide (j < n) := by
  unfold isr
  congr 1
  apply propext
  constructor
  · rintro ⟨-, h⟩; exact (nI_ltI hj hn).mp h
  · intro h; exact ⟨nI_pos hj, (nI_ltI hj hn).mpr h⟩
theorem in_nI {j n : Nat} (hj : j < n) (hn : n < 2 ^ 31) : ex_in (nI j) n = true := by
  unfold ex_in
  exact decide_eq_true (nI_in hj hn)
section SM
variable {d : Nat} {Q : Option Value → ex_H → Prop} {h : ex_H} {lx : Nat} {xs : Nat → Int32} {M : Nat → Nat → Int32} {x y z : Int32}
theorem c_X6_isThing : Go d 45 0 [some (.int x)] [] h Q = Q (some (.int (bI (isr x 4)))) h := by
  simp only [s_45_0, s_45_1, s_45_4, s_45_5, s_45_6, s_45_9, s_45_10, s_45_13, s_45_14_0, s_45_14_1]
  sorry
theorem c_X3_isChild : Go d 57 0 [some (.ref 2), some (.int x)] [] (HP lx xs M) Q = Q (some (.int (bI (decide (¬ x < 0 ∧ x < M 2 0))))) (HP lx xs M) := by
  simp only [s_57_0, s_57_1, s_57_4, s_57_5, s_57_6, s_57_9, s_57_12, s_57_13, s_57_16, s_57_17_0, s_57_17_1]
  sorry
theorem c_X3_isTeaching : Go (d + 1) 58 0 [some (.ref 2), some (.int x), some (.int y), some (.int z)] [] (HP lx xs M) Q = Q (some (.int (bI (decide (¬ x < 0 ∧ x < M 2 0))))) (HP lx xs M) := by
  simp only [s_58_0, s_58_1, s_58_2, s_58_5, s_58_8, s_58_9, s_58_10, s_58_13, s_58_16, s_58_17, s_58_20, s_58_23, s_58_24, s_58_25, s_58_28, s_58_29, s_58_32, s_58_33_0, s_58_33_1, c_X3_isChild, c_X6_isThing, ap_some, bI_0]
  sorry
end SM
