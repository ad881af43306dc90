/-! .. all six know it -/
theorem ch63_0 : chk 63 0 (rlK 63 0) (fun _ => 9) = true := by decide +kernel
theorem ch63_1 : chk 63 1 (rlK 63 1) (fun _ => 9) = true := by decide +kernel
theorem ch63_2 : chk 63 2 (rlK 63 2) (fun _ => 9) = true := by decide +kernel
theorem ch63_3 : chk 63 3 (rlK 63 3) (fun _ => 9) = true := by decide +kernel
theorem ch63_4 : chk 63 4 (rlK 63 4) (fun _ => 9) = true := by decide +kernel
theorem ch63_5 : chk 63 5 (rlK 63 5) (fun _ => 9) = true := by decide +kernel
theorem chk_all {K r : Nat} (hK : K < 64) (hr : K.testBit r = true) : chk K r (rlK K r) (fun _ => 9) = true := by
  have hr6 : r < 6 := tb_lt (n := 6) hK hr
  by_cases h63 : K = 63
  · subst h63
    rcases (by omega : r = 0 ∨ r = 1 ∨ r = 2 ∨ r = 3 ∨ r = 4 ∨ r = 5) with rfl | rfl | rfl | rfl | rfl | rfl
    · exact ch63_0
    · exact ch63_1
    · exact ch63_2
    · exact ch63_3
    · exact ch63_4
    · exact ch63_5
  · have h := chA_0
    rw [List.all_eq_true] at h
    have h2 := h K (List.mem_range.mpr (by omega))
    unfold chA at h2
    rw [List.all_eq_true] at h2
    have h3 := h2 r (List.mem_range.mpr hr6)
    rw [hr] at h3
    exact h3
theorem mq_acy {K r : Nat} (hK : K < 64) (hr : K.testBit r = true) {h : Nat → Nat} (h1 : ∀ c, c ∉ rlK K r → h c = 9) (h2 : ∀ c, c ∈ rlK K r → h c < 6 ∧ K.testBit (h c) = true ∧ h c ≠ c) : mqD h (rlK K r) (wo K (2 ^ r)) = (if acy (wlK K) h then 1 else 0) := chk_ok (rlK K r) (fun _ => 9) (chk_all hK hr) h h1 h2
