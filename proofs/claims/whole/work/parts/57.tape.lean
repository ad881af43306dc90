/-! the tape: places and bytes -/
def skf (T : Nat → Nat) (n : Nat) : Nat → Nat → Nat
  | 0, p => p
  | m + 1, p => if p < n ∧ T p = 32 then skf T n m (p + 1) else p
/-- the next place from p on that is no blank -/
def sk (T : Nat → Nat) (n p : Nat) : Nat := skf T n (n - p) p
def nx (T : Nat → Nat) (n p : Nat) : Nat := sk T n (p + 1)
def chr (T : Nat → Nat) (n p : Nat) : Int32 := if p < n then nI (T p) else -1
section TA
variable {T : Nat → Nat} {n p : Nat}
theorem sk_yes (h : p < n) (h2 : T p = 32) : sk T n p = sk T n (p + 1) := by
  unfold sk
  obtain ⟨m, hm⟩ : ∃ m, n - p = m + 1 := ⟨n - p - 1, by omega⟩
  rw [hm, skf, if_pos ⟨h, h2⟩, show n - (p + 1) = m by omega]
theorem sk_no (h : ¬ (p < n ∧ T p = 32)) : sk T n p = p := by
  unfold sk
  cases n - p with
  | zero => rfl
  | succ m => rw [skf, if_neg h]
theorem sk_prop : ∀ m p, n - p = m → p ≤ n → p ≤ sk T n p ∧ sk T n p ≤ n ∧ ¬ (sk T n p < n ∧ T (sk T n p) = 32) := by
  intro m
  induction m with
  | zero =>
    intro p h hp
    have h1 : ¬ (p < n ∧ T p = 32) := by omega
    rw [sk_no h1]
    exact ⟨Nat.le_refl _, hp, h1⟩
  | succ m ih =>
    intro p h hp
    by_cases h1 : p < n ∧ T p = 32
    · rw [sk_yes h1.1 h1.2]
      obtain ⟨a, b, c⟩ := ih (p + 1) (by omega) (by omega)
      exact ⟨by omega, b, c⟩
    · rw [sk_no h1]
      exact ⟨Nat.le_refl _, hp, h1⟩
theorem sk_le (h : p ≤ n) : sk T n p ≤ n := (sk_prop _ p rfl h).2.1
theorem sk_idem (h : p ≤ n) : sk T n (sk T n p) = sk T n p := sk_no (sk_prop _ p rfl h).2.2
theorem nx_le (h : p < n) : nx T n p ≤ n := sk_le h
theorem nx_idem (h : p < n) : sk T n (nx T n p) = nx T n p := sk_idem h
theorem nI_m1 {a : Nat} (h : a < 2147483648) : (-1 = nI a) = False := by
  apply eq_false
  intro q
  have := congrArg Int32.toInt q
  rw [i_int h, show (-1 : Int32).toInt = -1 by decide] at this
  omega
theorem chr_eq {c : Nat} (hT : ∀ i, i < n → 32 ≤ T i ∧ T i ≤ 126) (hc : c < 2147483648) : (chr T n p = nI c) = (p < n ∧ T p = c) := by
  unfold chr
  by_cases h : p < n
  · rw [if_pos h]
    have := hT p h
    rw [i_eq (by omega) hc]
    exact propext ⟨fun q => ⟨h, q⟩, fun q => q.2⟩
  · rw [if_neg h, nI_m1 hc]
    exact propext ⟨fun q => q.elim, fun q => h q.1⟩
theorem chr_l0 (hT : ∀ i, i < n → 32 ≤ T i ∧ T i ≤ 126) : (chr T n p < 0) = ¬ p < n := by
  unfold chr
  by_cases h : p < n
  · have := hT p h
    rw [if_pos h, i_l0 (by omega)]
    exact propext ⟨fun q => q.elim, fun q => q h⟩
  · rw [if_neg h]
    exact propext ⟨fun _ => h, fun _ => by decide⟩
theorem chr_m1 (hT : ∀ i, i < n → 32 ≤ T i ∧ T i ≤ 126) : (chr T n p = -1) = ¬ p < n := by
  unfold chr
  by_cases h : p < n
  · have := hT p h
    rw [if_pos h, m1_ne (by omega)]
    exact propext ⟨fun q => q.elim, fun q => q h⟩
  · rw [if_neg h]
    exact propext ⟨fun _ => h, fun _ => rfl⟩
theorem chr_dig {b c : Nat} (hT : ∀ i, i < n → 32 ≤ T i ∧ T i ≤ 126) (hb : b < 1000) (hb2 : (-1 - nI b).toInt < 0) : isr (chr T n p - nI b) c = decide (p < n ∧ b ≤ T p ∧ T p < b + c) := by
  unfold chr isr
  apply decide_eq_decide.mpr
  by_cases h : p < n
  · have := hT p h
    rw [if_pos h, pk_sub_toInt (by omega) (by omega)]
    omega
  · rw [if_neg h]
    omega
theorem chr_val {b : Nat} (h : p < n) (hb : b ≤ T p) : chr T n p - nI b = nI (T p - b) := by
  unfold chr
  rw [if_pos h, i_sub hb]
end TA
def TPC (M : Nat → Nat → Int32) (n : Nat) (T : Nat → Nat) : Prop := M 28 4 = nI n ∧ (∀ i, i < n → M 34 i = nI (T i)) ∧ n ≤ 160 ∧ (∀ i, i < n → 32 ≤ T i ∧ T i ≤ 126)
def TPM (M : Nat → Nat → Int32) (n : Nat) (T : Nat → Nat) : Prop := M 53 10 = nI n ∧ (∀ i, i < n → M 59 i = nI (T i)) ∧ n ≤ 160 ∧ (∀ i, i < n → 32 ≤ T i ∧ T i ≤ 126)
section TB
variable {d : Nat} {Q : Option Value → ex_H → Prop} {lx : Nat} {xs : Nat → Int32} {M M1 : Nat → Nat → Int32} {T : Nat → Nat} {n p c q : Nat}
theorem TPC_up (h : TPC M n T) {x : Int32} : TPC (up M 28 5 x) n T := by
  obtain ⟨h1, h2, h3, h4⟩ := h
  exact ⟨by rw [up_off (by decide)]; exact h1, fun i hi => by rw [up_ne _ _ _ (by decide)]; exact h2 i hi, h3, h4⟩
theorem TPC_ne (h : TPC M n T) {x : Int32} {r i : Nat} (h1 : 28 ≠ r) (h2 : 34 ≠ r) : TPC (up M r i x) n T := by
  obtain ⟨a1, a2, a3, a4⟩ := h
  exact ⟨by rw [up_ne _ _ _ h1]; exact a1, fun i hi => by rw [up_ne _ _ _ h2]; exact a2 i hi, a3, a4⟩
theorem TPM_up (h : TPM M n T) {x : Int32} {i : Nat} (hi : 10 ≠ i) : TPM (up M 53 i x) n T := by
  obtain ⟨h1, h2, h3, h4⟩ := h
  exact ⟨by rw [up_off hi]; exact h1, fun i hi => by rw [up_ne _ _ _ (by decide)]; exact h2 i hi, h3, h4⟩
theorem TPM_ne (h : TPM M n T) {x : Int32} {r i : Nat} (h1 : 53 ≠ r) (h2 : 59 ≠ r) : TPM (up M r i x) n T := by
  obtain ⟨a1, a2, a3, a4⟩ := h
  exact ⟨by rw [up_ne _ _ _ h1]; exact a1, fun i hi => by rw [up_ne _ _ _ h2]; exact a2 i hi, a3, a4⟩
theorem c_X1_skipBlanks : ∀ m p M, n - p = m → p ≤ n → TPC M n T → M 28 5 = nI p → ∀ d Q, Go d 83 0 [some (.ref 28)] [] (HP lx xs M) Q = Q none (HP lx xs (up M 28 5 (nI (sk T n p)))) := by
  intro m
  induction m with
  | zero =>
    intro p M h hp hT h5 d Q
    obtain ⟨t1, t2, t3, t4⟩ := hT
    have h1 : ¬ p < n := by omega
    rw [sk_no (fun q => h1 q.1), up_same h5, s_83_0]
    simp (disch := omega) only [s_83_1, s_83_4, s_83_5, s_83_8, s_83_11, s_83_12, s_83_15, s_83_16, s_83_19, s_83_20, s_83_22, s_83_25, s_83_26, s_83_27, s_83_30, s_83_31, s_83_32, s_83_35, s_83_38, ↓reduceIte, h5, t1, i_lt, h1]
  | succ m ih =>
    intro p M h hp hT h5 d Q
    have hT' := hT
    obtain ⟨t1, t2, t3, t4⟩ := hT
    have h1 : p < n := by omega
    have e := t2 p h1
    have b := t4 p h1
    by_cases h2 : T p = 32
    · have ih2 := ih (p + 1) (up M 28 5 (nI (p + 1))) (by omega) (by omega) (TPC_up hT') up_at d Q
      rw [up_up] at ih2
      rw [sk_yes h1 h2, s_83_0]
      rw [h2] at e
      simp (disch := omega) only [s_83_1, s_83_4, s_83_5, s_83_8, s_83_11, s_83_12, s_83_15, s_83_16, s_83_19, s_83_20, s_83_22, s_83_25, s_83_26, s_83_27, s_83_30, s_83_31, s_83_32, s_83_35, s_83_38, ↓reduceIte, h5, t1, i_lt, h1, i_in, i_cl, true_and, e, i_add]
      exact ih2
    · have h3 : (nI (T p) = nI 32) = False := by rw [i_eq (by omega) (by decide)]; exact eq_false h2
      rw [sk_no (fun q => h2 q.2), up_same h5, s_83_0]
      simp (disch := omega) only [s_83_1, s_83_4, s_83_5, s_83_8, s_83_11, s_83_12, s_83_15, s_83_16, s_83_19, s_83_20, s_83_22, s_83_25, s_83_26, s_83_27, s_83_30, s_83_31, s_83_32, s_83_35, s_83_38, ↓reduceIte, h5, t1, i_lt, h1, i_in, i_cl, true_and, e, h3]
theorem c_X1_sign (hT : TPC M n T) (h5 : M 28 5 = nI p) (hp : p ≤ n) : Go d 84 0 [some (.ref 28)] [] (HP lx xs M) Q = Q (some (.int (chr T n p))) (HP lx xs M) := by
  obtain ⟨t1, t2, t3, t4⟩ := hT
  unfold chr
  by_cases h1 : p < n
  · have e := t2 p h1
    simp (disch := omega) only [s_84_0, s_84_1, s_84_4, s_84_5, s_84_8, s_84_11, s_84_12, s_84_15, s_84_16, s_84_19, s_84_20, s_84_23, s_84_24, ↓reduceIte, h5, t1, i_lt, h1, i_in, i_cl, true_and, e]
  · simp (disch := omega) only [s_84_0, s_84_1, s_84_4, s_84_5, s_84_8, s_84_11, s_84_12, s_84_15, s_84_16, s_84_19, s_84_20, s_84_23, s_84_24, ↓reduceIte, h5, t1, i_lt, h1]
theorem c_X1_step (hT : TPC M n T) (h5 : M 28 5 = nI p) (hp : p < n) : Go (d + 1) 82 0 [some (.ref 28)] [] (HP lx xs M) Q = Q none (HP lx xs (up M 28 5 (nI (nx T n p)))) := by
  have hh := fun d Q => c_X1_skipBlanks (lx := lx) (xs := xs) _ (p + 1) (up M 28 5 (nI (p + 1))) rfl hp (TPC_up hT) up_at d Q
  simp only [up_up] at hh
  have := hT.2.2.1
  simp (disch := omega) only [s_82_0, s_82_1, s_82_2, s_82_5, s_82_6, s_82_7, s_82_10, s_82_11, s_82_14, ↓reduceIte, h5, i_add, hh, ap_none]
  rfl
theorem c_X1_rewind (hT : TPC M n T) : Go (d + 1) 81 0 [some (.ref 28)] [] (HP lx xs M) Q = Q none (HP lx xs (up M 28 5 (nI (sk T n 0)))) := by
  have hh := fun d Q => c_X1_skipBlanks (lx := lx) (xs := xs) _ 0 (up M 28 5 (nI 0)) rfl (Nat.zero_le n) (TPC_up hT) up_at d Q
  simp only [up_up] at hh
  simp (disch := omega) only [s_81_0, s_81_1, s_81_2, s_81_5, s_81_6, s_81_9, ↓reduceIte, hh, ap_none]
theorem c_X1_takes (hT : TPC M n T) (h5 : M 28 5 = nI p) (hp : p ≤ n) (hc : c < 2147483648) : Go (d + 2) 85 0 [some (.ref 28), some (.int (nI c))] [] (HP lx xs M) Q = if p < n ∧ T p = c then Q (some (.int (nI 1))) (HP lx xs (up M 28 5 (nI (nx T n p)))) else Q (some (.int (nI 0))) (HP lx xs M) := by
  have t4 := hT.2.2.2
  by_cases h : p < n ∧ T p = c
  · rw [if_pos h]
    simp (disch := omega) only [s_85_0, s_85_1, s_85_4, s_85_5, s_85_8, s_85_9_0, s_85_9_1, sb_85_9, s_85_10, s_85_11, s_85_14, s_85_15_0, s_85_15_1, sb_85_15, ↓reduceIte, c_X1_sign hT h5 hp, ap_some, ap_none, chr_eq t4 hc, h, and_self, c_X1_step hT h5 h.1]
  · rw [if_neg h]
    simp (disch := omega) only [s_85_0, s_85_1, s_85_4, s_85_5, s_85_8, s_85_9_0, s_85_9_1, sb_85_9, s_85_10, s_85_11, s_85_14, s_85_15_0, s_85_15_1, sb_85_15, ↓reduceIte, c_X1_sign hT h5 hp, ap_some, chr_eq t4 hc, h]
theorem c_X1_fault (h5 : M 28 5 = nI p) : Go d 86 0 [some (.ref 28)] [] (HP lx xs M) Q = Q (some (.int (-20 - nI p))) (HP lx xs M) := by
  simp only [s_86_0, s_86_2, s_86_3, s_86_6, s_86_7, h5]
theorem ll_X7_nextByte : ∀ m p M, n - p = m → p ≤ n → TPM M n T → M 53 11 = nI p → ∀ d Q, Go d 130 0 [some (.ref 53)] [] (HP lx xs M) Q = Q (some (.int (chr T n (sk T n p)))) (HP lx xs (up M 53 11 (nI (sk T n p)))) := by
  intro m
  induction m with
  | zero =>
    intro p M h hp hT h5 d Q
    obtain ⟨t1, t2, t3, t4⟩ := hT
    have h1 : ¬ p < n := by omega
    rw [sk_no (fun q => h1 q.1), up_same h5, s_130_0]
    unfold chr
    simp (disch := omega) only [s_130_1, s_130_4, s_130_5, s_130_8, s_130_11, s_130_12, s_130_15, s_130_16, s_130_19, s_130_20, s_130_22, s_130_25, s_130_26, s_130_27, s_130_30, s_130_31, s_130_32, s_130_35, s_130_38, s_130_39, s_130_42, s_130_43, s_130_46, s_130_49, s_130_50, s_130_53, s_130_54, s_130_57, s_130_58, s_130_61, s_130_62, ↓reduceIte, h5, t1, i_lt, h1]
  | succ m ih =>
    intro p M h hp hT h5 d Q
    have hT' := hT
    obtain ⟨t1, t2, t3, t4⟩ := hT
    have h1 : p < n := by omega
    have e := t2 p h1
    have b := t4 p h1
    by_cases h2 : T p = 32
    · have ih2 := ih (p + 1) (up M 53 11 (nI (p + 1))) (by omega) (by omega) (TPM_up hT' (by decide)) up_at d Q
      rw [up_up] at ih2
      rw [sk_yes h1 h2, s_130_0]
      rw [h2] at e
      simp (disch := omega) only [s_130_1, s_130_4, s_130_5, s_130_8, s_130_11, s_130_12, s_130_15, s_130_16, s_130_19, s_130_20, s_130_22, s_130_25, s_130_26, s_130_27, s_130_30, s_130_31, s_130_32, s_130_35, s_130_38, s_130_39, s_130_42, s_130_43, s_130_46, s_130_49, s_130_50, s_130_53, s_130_54, s_130_57, s_130_58, s_130_61, s_130_62, ↓reduceIte, h5, t1, i_lt, h1, i_in, i_cl, true_and, e, i_add]
      exact ih2
    · have h3 : (nI (T p) = nI 32) = False := by rw [i_eq (by omega) (by decide)]; exact eq_false h2
      rw [sk_no (fun q => h2 q.2), up_same h5, s_130_0]
      unfold chr
      simp (disch := omega) only [s_130_1, s_130_4, s_130_5, s_130_8, s_130_11, s_130_12, s_130_15, s_130_16, s_130_19, s_130_20, s_130_22, s_130_25, s_130_26, s_130_27, s_130_30, s_130_31, s_130_32, s_130_35, s_130_38, s_130_39, s_130_42, s_130_43, s_130_46, s_130_49, s_130_50, s_130_53, s_130_54, s_130_57, s_130_58, s_130_61, s_130_62, ↓reduceIte, h5, t1, i_lt, h1, i_in, i_cl, true_and, e, h3]
theorem c_X7_nextByte (hT : TPM M n T) (h5 : M 53 11 = nI p) (hp : p ≤ n) : Go d 130 0 [some (.ref 53)] [] (HP lx xs M) Q = Q (some (.int (chr T n (sk T n p)))) (HP lx xs (up M 53 11 (nI (sk T n p)))) := ll_X7_nextByte _ p M rfl hp hT h5 d Q
end TB
