/-! one change of the school: needs, heard, draw (written by gen_rep.py) -/
section RP
variable {M : Nat → Nat → Int32} {S : Nat → Nat → Nat} {c i k : Nat}
theorem RepC_heard (hC : RepC M 2 S) : RepC (up M 6 c (nI k)) 2 (upS S 3 c k) := by
  obtain ⟨c1, c2, c3, c4, c5, c6, c7, c8, c9, c10, c11, c12⟩ := hC
  simp only [Nat.reduceAdd] at c4 c5 c6 c7 c8 c9 c10 c11 c12
  have rr : ∀ r, r ≠ 3 → upS S 3 c k r = S r := fun r h => upS_row h
  refine ⟨?_, ?_, ?_, ?_, ?_, ?_, ?_, ?_, ?_, ?_, ?_, ?_⟩
  all_goals try simp only [Nat.reduceAdd, rr 0 (by decide), rr 1 (by decide), rr 2 (by decide), rr 4 (by decide), rr 5 (by decide), rr 6 (by decide), rr 7 (by decide), rr 8 (by decide), rr 9 (by decide), hrs_row (rr 9 (by decide)) (rr 5 (by decide)), opn_row (rr 9 (by decide))]
  · rw [up_ne _ _ _ (by decide)]; exact c1
  · rw [up_ne _ _ _ (by decide)]; exact c2
  · rw [up_ne _ _ _ (by decide)]; exact c3
  · rw [up_ne _ _ _ (by decide)]; exact c4
  · rw [up_ne _ _ _ (by decide)]; exact c5
  · rw [up_ne _ _ _ (by decide)]; exact c6
  · intro i2 hi
    by_cases h : i2 = c
    · subst h; rw [up_at, upS_at]
    · rw [up_off h, upS_off (fun q => h q.2)]; exact c7 i2 hi
  · rw [up_ne _ _ _ (by decide)]; exact c8
  · rw [up_ne _ _ _ (by decide)]; exact c9
  · rw [up_ne _ _ _ (by decide)]; exact c10
  · rw [up_ne _ _ _ (by decide)]; exact c11
  · rw [up_ne _ _ _ (by decide)]; exact c12
theorem RepC_need (hC : RepC M 2 S) : RepC (up M 7 c (nI k)) 2 (upS S 4 c k) := by
  obtain ⟨c1, c2, c3, c4, c5, c6, c7, c8, c9, c10, c11, c12⟩ := hC
  simp only [Nat.reduceAdd] at c4 c5 c6 c7 c8 c9 c10 c11 c12
  have rr : ∀ r, r ≠ 4 → upS S 4 c k r = S r := fun r h => upS_row h
  refine ⟨?_, ?_, ?_, ?_, ?_, ?_, ?_, ?_, ?_, ?_, ?_, ?_⟩
  all_goals try simp only [Nat.reduceAdd, rr 0 (by decide), rr 1 (by decide), rr 2 (by decide), rr 3 (by decide), rr 5 (by decide), rr 6 (by decide), rr 7 (by decide), rr 8 (by decide), rr 9 (by decide), hrs_row (rr 9 (by decide)) (rr 5 (by decide)), opn_row (rr 9 (by decide))]
  · rw [up_ne _ _ _ (by decide)]; exact c1
  · rw [up_ne _ _ _ (by decide)]; exact c2
  · rw [up_ne _ _ _ (by decide)]; exact c3
  · rw [up_ne _ _ _ (by decide)]; exact c4
  · rw [up_ne _ _ _ (by decide)]; exact c5
  · rw [up_ne _ _ _ (by decide)]; exact c6
  · rw [up_ne _ _ _ (by decide)]; exact c7
  · intro i2 hi
    by_cases h : i2 = c
    · subst h; rw [up_at, upS_at]
    · rw [up_off h, upS_off (fun q => h q.2)]; exact c8 i2 hi
  · rw [up_ne _ _ _ (by decide)]; exact c9
  · rw [up_ne _ _ _ (by decide)]; exact c10
  · rw [up_ne _ _ _ (by decide)]; exact c11
  · rw [up_ne _ _ _ (by decide)]; exact c12
theorem RepC_draw (hC : RepC M 2 S) : RepC (up M 2 2 (nI k)) 2 (upS S 0 2 k) := by
  obtain ⟨c1, c2, c3, c4, c5, c6, c7, c8, c9, c10, c11, c12⟩ := hC
  simp only [Nat.reduceAdd] at c4 c5 c6 c7 c8 c9 c10 c11 c12
  have rr : ∀ r, r ≠ 0 → upS S 0 2 k r = S r := fun r h => upS_row h
  refine ⟨?_, ?_, ?_, ?_, ?_, ?_, ?_, ?_, ?_, ?_, ?_, ?_⟩
  all_goals try simp only [Nat.reduceAdd, rr 1 (by decide), rr 2 (by decide), rr 3 (by decide), rr 4 (by decide), rr 5 (by decide), rr 6 (by decide), rr 7 (by decide), rr 8 (by decide), rr 9 (by decide), hrs_row (rr 9 (by decide)) (rr 5 (by decide)), opn_row (rr 9 (by decide))]
  · rw [up_off (by decide), upS_off (by omega)]; exact c1
  · rw [up_off (by decide), upS_off (by omega)]; exact c2
  · rw [up_at, upS_at]
  · rw [up_ne _ _ _ (by decide)]; exact c4
  · rw [up_ne _ _ _ (by decide)]; exact c5
  · intro i hi; rw [upS_off (by omega)] at hi; rw [up_ne _ _ _ (by decide)]; exact c6 i hi
  · rw [up_ne _ _ _ (by decide)]; exact c7
  · rw [up_ne _ _ _ (by decide)]; exact c8
  · rw [up_ne _ _ _ (by decide)]; exact c9
  · rw [up_ne _ _ _ (by decide)]; exact c10
  · rw [up_ne _ _ _ (by decide)]; exact c11
  · rw [up_ne _ _ _ (by decide)]; exact c12
theorem RepM_heard (hC : RepM M S) : RepM (up M 55 c (nI k)) (upS S 3 c k) := by
  obtain ⟨c1, c2, c3, c4, c5, c6, c7, c8, c9⟩ := hC
  have rr : ∀ r, r ≠ 3 → upS S 3 c k r = S r := fun r h => upS_row h
  refine ⟨?_, ?_, ?_, ?_, ?_, ?_, ?_, ?_, ?_⟩
  all_goals try simp only [rr 0 (by decide), rr 1 (by decide), rr 2 (by decide), rr 4 (by decide), rr 5 (by decide), rr 6 (by decide), rr 7 (by decide), rr 8 (by decide), rr 9 (by decide)]
  · rw [up_ne _ _ _ (by decide)]; exact c1
  · rw [up_ne _ _ _ (by decide)]; exact c2
  · rw [up_ne _ _ _ (by decide)]; exact c3
  · rw [up_ne _ _ _ (by decide)]; exact c4
  · rw [up_ne _ _ _ (by decide)]; exact c5
  · intro i2 hi
    by_cases h : i2 = c
    · subst h; rw [up_at, upS_at]
    · rw [up_off h, upS_off (fun q => h q.2)]; exact c6 i2 hi
  · rw [up_ne _ _ _ (by decide)]; exact c7
  · rw [up_ne _ _ _ (by decide)]; exact c8
  · rw [up_ne _ _ _ (by decide)]; exact c9
theorem RepM_need (hC : RepM M S) : RepM (up M 57 c (nI k)) (upS S 4 c k) := by
  obtain ⟨c1, c2, c3, c4, c5, c6, c7, c8, c9⟩ := hC
  have rr : ∀ r, r ≠ 4 → upS S 4 c k r = S r := fun r h => upS_row h
  refine ⟨?_, ?_, ?_, ?_, ?_, ?_, ?_, ?_, ?_⟩
  all_goals try simp only [rr 0 (by decide), rr 1 (by decide), rr 2 (by decide), rr 3 (by decide), rr 5 (by decide), rr 6 (by decide), rr 7 (by decide), rr 8 (by decide), rr 9 (by decide)]
  · rw [up_ne _ _ _ (by decide)]; exact c1
  · rw [up_ne _ _ _ (by decide)]; exact c2
  · rw [up_ne _ _ _ (by decide)]; exact c3
  · rw [up_ne _ _ _ (by decide)]; exact c4
  · rw [up_ne _ _ _ (by decide)]; exact c5
  · rw [up_ne _ _ _ (by decide)]; exact c6
  · intro i2 hi
    by_cases h : i2 = c
    · subst h; rw [up_at, upS_at]
    · rw [up_off h, upS_off (fun q => h q.2)]; exact c7 i2 hi
  · rw [up_ne _ _ _ (by decide)]; exact c8
  · rw [up_ne _ _ _ (by decide)]; exact c9
theorem RepM_draw (hC : RepM M S) : RepM (up M 53 8 (nI k)) (upS S 0 2 k) := by
  obtain ⟨c1, c2, c3, c4, c5, c6, c7, c8, c9⟩ := hC
  have rr : ∀ r, r ≠ 0 → upS S 0 2 k r = S r := fun r h => upS_row h
  refine ⟨?_, ?_, ?_, ?_, ?_, ?_, ?_, ?_, ?_⟩
  all_goals try simp only [rr 1 (by decide), rr 2 (by decide), rr 3 (by decide), rr 4 (by decide), rr 5 (by decide), rr 6 (by decide), rr 7 (by decide), rr 8 (by decide), rr 9 (by decide)]
  · rw [up_off (by decide), upS_off (by omega)]; exact c1
  · rw [up_off (by decide), upS_off (by omega)]; exact c2
  · rw [up_at, upS_at]
  · rw [up_ne _ _ _ (by decide)]; exact c4
  · rw [up_ne _ _ _ (by decide)]; exact c5
  · rw [up_ne _ _ _ (by decide)]; exact c6
  · rw [up_ne _ _ _ (by decide)]; exact c7
  · rw [up_off (by decide)]; exact c8
  · rw [up_ne _ _ _ (by decide)]; exact c9
theorem WF_heard (hW : WF S) (hk : k < 64) (hs : c < S 0 0 → k.testBit c = false) : WF (upS S 3 c k) := by
  obtain ⟨w1, w2, w3, w4, w5, w6, w7, w8, w9⟩ := hW
  have rr : ∀ r, r ≠ 3 → upS S 3 c k r = S r := fun r h => upS_row h
  refine ⟨?_, ?_, ?_, ?_, ?_, ?_, ?_, ?_, ?_⟩
  all_goals try simp only [rr 0 (by decide), rr 1 (by decide), rr 2 (by decide), rr 4 (by decide), rr 5 (by decide), rr 6 (by decide), rr 7 (by decide), rr 8 (by decide), rr 9 (by decide)]
  · exact w1
  · exact w2
  · refine ⟨w3.1, fun c2 hc2 => ?_⟩
    by_cases h : c2 = c
    · subst h; rw [upS_at]; exact hs hc2
    · rw [upS_off (fun q => h q.2)]; exact w3.2 c2 hc2
  · exact w4
  · exact w5
  · intro i2 hi
    by_cases h : i2 = c
    · subst h; rw [upS_at]; exact hk
    · rw [upS_off (fun q => h q.2)]; exact w6 i2 hi
  · exact w7
  · exact w8
  · exact w9
theorem WF_need (hW : WF S) (hk : k < 16) : WF (upS S 4 c k) := by
  obtain ⟨w1, w2, w3, w4, w5, w6, w7, w8, w9⟩ := hW
  have rr : ∀ r, r ≠ 4 → upS S 4 c k r = S r := fun r h => upS_row h
  refine ⟨?_, ?_, ?_, ?_, ?_, ?_, ?_, ?_, ?_⟩
  all_goals try simp only [rr 0 (by decide), rr 1 (by decide), rr 2 (by decide), rr 3 (by decide), rr 5 (by decide), rr 6 (by decide), rr 7 (by decide), rr 8 (by decide), rr 9 (by decide)]
  · exact w1
  · exact w2
  · exact w3
  · exact w4
  · exact w5
  · exact w6
  · intro i2 hi
    by_cases h : i2 = c
    · subst h; rw [upS_at]; exact hk
    · rw [upS_off (fun q => h q.2)]; exact w7 i2 hi
  · exact w8
  · exact w9
theorem WF_draw (hW : WF S) (hk : k < 2147483648) : WF (upS S 0 2 k) := by
  obtain ⟨w1, w2, w3, w4, w5, w6, w7, w8, w9⟩ := hW
  have rr : ∀ r, r ≠ 0 → upS S 0 2 k r = S r := fun r h => upS_row h
  refine ⟨?_, ?_, ?_, ?_, ?_, ?_, ?_, ?_, ?_⟩
  all_goals try simp only [rr 1 (by decide), rr 2 (by decide), rr 3 (by decide), rr 4 (by decide), rr 5 (by decide), rr 6 (by decide), rr 7 (by decide), rr 8 (by decide), rr 9 (by decide)]
  · rw [upS_off (by omega)]; exact w1
  · rw [upS_off (by omega)]; exact w2
  · refine ⟨by rw [upS_at]; exact hk, fun c2 hc2 => ?_⟩
    rw [upS_off (by omega)] at hc2
    exact w3.2 c2 hc2
  · exact w4
  · exact w5
  · exact w6
  · exact w7
  · exact w8
  · rw [upS_off (by omega : ¬ ((0 : Nat) = 0 ∧ (0 : Nat) = 2))]; exact w9
end RP
