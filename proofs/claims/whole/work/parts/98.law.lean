/-- the law's loop (still owed) -/
theorem law_go (L : Nat) (xs : Nat → Int32) (hL : L ≤ 3072) : ∃ M', ∀ Q, Go 2000 171 18 [some (.ref 0), some (.ref 1), some (.ref 53), some (.int 0)] [] (HP L xs M0) Q = Q (some (.int 1)) (HP L xs M') := by
  sorry
