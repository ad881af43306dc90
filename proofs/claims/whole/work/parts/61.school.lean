/-! a school's text: class and reference alike -/
def kdc (c : Nat) : Option Nat := if c = 112 then some 0 else if c = 104 then some 1 else if c = 108 then some 2 else if c = 119 then some 3 else none
def kq (T : Nat → Nat) (n q : Nat) : Option Nat := if q < n then kdc (T q) else none
def kV (v : Option Nat) : Int32 := match v with
  | none => -4
  | some k => nI k
def isL (T : Nat → Nat) (n q : Nat) : Prop := q < n ∧ 97 ≤ T q ∧ T q < 97 + 4
/-- letters: the set, and where they end (m at most) -/
def rth (T : Nat → Nat) (n : Nat) : Nat → Nat → Nat → Nat × Nat
  | 0, s, q => (s, q)
  | m + 1, s, q => if (q < n ∧ 97 ≤ T q ∧ T q < 97 + 4) ∧ s.testBit (T q - 97) = false then rth T n m (s ||| 2 ^ (T q - 97)) (nx T n q) else (s, q)
def c4 (s : Nat) : Nat := s % 2 + s / 2 % 2 + s / 4 % 2 + s / 8 % 2
theorem c4_or : ∀ s, s < 16 → ∀ v, v < 4 → s.testBit v = false → c4 (s ||| 2 ^ v) = c4 s + 1 := by decide +kernel
theorem c4_full : ∀ s, s < 16 → c4 s = 4 → ∀ v, v < 4 → s.testBit v = true := by decide +kernel
theorem kd_none : ∀ v, v < 127 → kdc v = none → Op.lookupswitch.offset [(104, 45), (108, 47), (112, 43), (119, 49)] 51 (nI v).toInt = 51 := by decide +kernel
theorem kd_lt {c k : Nat} (h : kdc c = some k) : k < 4 := by
  unfold kdc at h
  repeat' split at h
  all_goals cases h
  all_goals decide
section SC
variable {d : Nat} {Q : Option Value → ex_H → Prop} {lx : Nat} {xs : Nat → Int32} {M M1 : Nat → Nat → Int32} {T : Nat → Nat} {n p q k kd : Nat}
theorem rth_le : ∀ m s q, q ≤ n → s < 16 → (rth T n m s q).1 < 16 ∧ (rth T n m s q).2 ≤ n ∧ (sk T n q = q → sk T n (rth T n m s q).2 = (rth T n m s q).2) := by
  intro m
  induction m with
  | zero => intro s q hq hs; exact ⟨hs, hq, fun h => h⟩
  | succ m ih =>
    intro s q hq hs
    rw [rth]
    split
    · rename_i h
      obtain ⟨a, b, c⟩ := ih (s ||| 2 ^ (T q - 97)) (nx T n q) (nx_le h.1.1) (or_lt16 hs (by omega))
      exact ⟨a, b, fun _ => c (nx_idem h.1.1)⟩
    · exact ⟨hs, hq, fun h => h⟩
theorem c_X1_kindOf (t4 : ∀ i, i < n → 32 ≤ T i ∧ T i ≤ 126) : Go d 88 0 [some (.int (chr T n q))] [] (HP lx xs M) Q = Q (some (.int (kV (kq T n q)))) (HP lx xs M) := by
  unfold kq chr
  by_cases h : q < n
  · rw [if_pos h, if_pos h]
    have b := t4 q h
    match hv : kdc (T q) with
    | none =>
      have e := kd_none (T q) (by omega) hv
      rw [s_88_0, sd_88_1 e]
      simp only [s_88_52, s_88_54, kV]
    | some k =>
      unfold kdc at hv
      by_cases h1 : T q = 112
      · rw [if_pos h1] at hv; cases hv; rw [h1]; simp only [s_88_0, s_88_1_104, s_88_1_108, s_88_1_112, s_88_1_119, s_88_44, s_88_45, s_88_46, s_88_47, s_88_48, s_88_49, s_88_50, s_88_51, s_88_52, s_88_54, kV]
      · rw [if_neg h1] at hv
        by_cases h2 : T q = 104
        · rw [if_pos h2] at hv; cases hv; rw [h2]; simp only [s_88_0, s_88_1_104, s_88_1_108, s_88_1_112, s_88_1_119, s_88_44, s_88_45, s_88_46, s_88_47, s_88_48, s_88_49, s_88_50, s_88_51, s_88_52, s_88_54, kV]
        · rw [if_neg h2] at hv
          by_cases h3 : T q = 108
          · rw [if_pos h3] at hv; cases hv; rw [h3]; simp only [s_88_0, s_88_1_104, s_88_1_108, s_88_1_112, s_88_1_119, s_88_44, s_88_45, s_88_46, s_88_47, s_88_48, s_88_49, s_88_50, s_88_51, s_88_52, s_88_54, kV]
          · rw [if_neg h3] at hv
            by_cases h4 : T q = 119
            · rw [if_pos h4] at hv; cases hv; rw [h4]; simp only [s_88_0, s_88_1_104, s_88_1_108, s_88_1_112, s_88_1_119, s_88_44, s_88_45, s_88_46, s_88_47, s_88_48, s_88_49, s_88_50, s_88_51, s_88_52, s_88_54, kV]
            · rw [if_neg h4] at hv; cases hv
  · rw [if_neg h, if_neg h, s_88_0, sd_88_1 (by decide +kernel)]
    simp only [s_88_52, s_88_54, kV]
theorem ll_X1_readThings : ∀ m i s q M, i + m = 4 → s < 16 → q ≤ n → TPC M n T → M 28 5 = nI q → ∀ d Q o3, Go (d + 2) 89 4 [some (.ref 28), some (.int (nI s)), some (.int (nI i)), o3] [] (HP lx xs M) Q = Q (some (.int (nI (rth T n m s q).1))) (HP lx xs (up M 28 5 (nI (rth T n m s q).2))) := by
  intro m
  induction m with
  | zero =>
    intro i s q M hi hs hq hT h5 d Q o3
    have e : i = 4 := by omega
    subst e
    rw [rth, up_same h5, s_89_4]
    simp (disch := omega) only [s_89_5, s_89_6, s_89_9, s_89_10, s_89_13, s_89_15, s_89_16, s_89_17, s_89_18, s_89_21, s_89_24, s_89_25, s_89_26, s_89_29, s_89_32, s_89_33, s_89_34, s_89_35, s_89_36, s_89_37, s_89_38, s_89_39, s_89_40, s_89_41, s_89_44, s_89_47, s_89_50, s_89_51, ↓reduceIte, i_lt, Nat.lt_irrefl]
  | succ m ih =>
    intro i s q M hi hs hq hT h5 d Q o3
    have t4 := hT.2.2.2
    have hi4 : i < 4 := by omega
    have sg := fun d Q => c_X1_sign (d := d) (Q := Q) (lx := lx) (xs := xs) hT h5 hq
    have dg : isr (chr T n q - nI 97) 4 = decide (q < n ∧ 97 ≤ T q ∧ T q < 97 + 4) := chr_dig t4 (by decide) x97
    rw [rth, s_89_4]
    by_cases h1 : q < n ∧ 97 ≤ T q ∧ T q < 97 + 4
    · have b := t4 q h1.1
      have v : chr T n q - nI 97 = nI (T q - 97) := chr_val h1.1 h1.2.1
      rw [v, decide_eq_true h1] at dg
      by_cases h2 : s.testBit (T q - 97) = false
      · have ih2 := ih (i + 1) (s ||| 2 ^ (T q - 97)) (nx T n q) (up M 28 5 (nI (nx T n q))) (by omega) (or_lt16 hs (by omega)) (nx_le h1.1) (TPC_up hT) up_at d Q (some (.int (nI (T q - 97))))
        rw [up_up] at ih2
        rw [if_pos ⟨h1, h2⟩]
        simp (disch := omega) only [s_89_5, s_89_6, s_89_9, s_89_10, s_89_13, s_89_15, s_89_16, s_89_17, s_89_18, s_89_21, s_89_24, s_89_25, s_89_26, s_89_29, s_89_32, s_89_33, s_89_34, s_89_35, s_89_36, s_89_37, s_89_38, s_89_39, s_89_40, s_89_41, s_89_44, s_89_47, ↓reduceIte, i_lt, hi4, sg, ap_some, ap_none, v, c_X6_isThing, dg, bI_0, Bool.true_eq_false, c_X6_has, h2, i_1s, i_or, c_X1_step hT h5 h1.1, i_add]
        exact ih2
      · rw [if_neg (fun z => h2 z.2), up_same h5]
        rw [Bool.not_eq_false] at h2
        simp (disch := omega) only [s_89_5, s_89_6, s_89_9, s_89_10, s_89_13, s_89_15, s_89_16, s_89_17, s_89_18, s_89_21, s_89_24, s_89_25, s_89_26, s_89_29, s_89_32, s_89_33, s_89_34, s_89_35, s_89_36, s_89_37, s_89_38, s_89_39, s_89_40, s_89_41, s_89_44, s_89_47, ↓reduceIte, i_lt, hi4, sg, ap_some, ap_none, v, c_X6_isThing, dg, bI_0, Bool.true_eq_false, c_X6_has, h2]
    · rw [decide_eq_false h1] at dg
      rw [if_neg (fun z => h1 z.1), up_same h5]
      simp (disch := omega) only [s_89_5, s_89_6, s_89_9, s_89_10, s_89_13, s_89_15, s_89_16, s_89_17, s_89_18, s_89_21, s_89_24, s_89_25, s_89_26, s_89_29, s_89_32, s_89_33, s_89_34, s_89_35, s_89_36, s_89_37, s_89_38, s_89_39, s_89_40, s_89_41, s_89_44, s_89_47, ↓reduceIte, i_lt, hi4, sg, ap_some, ap_none, c_X6_isThing, dg, bI_0]
theorem c_X1_readThings (hq : q ≤ n) (hT : TPC M n T) (h5 : M 28 5 = nI q) : Go (d + 2) 89 0 [some (.ref 28), none, none, none] [] (HP lx xs M) Q = Q (some (.int (nI (rth T n 4 0 q).1))) (HP lx xs (up M 28 5 (nI (rth T n 4 0 q).2))) := by
  simp only [s_89_0, s_89_1, s_89_2, s_89_3]
  exact ll_X1_readThings 4 0 0 q M (by omega) (by decide) hq hT h5 d Q none
theorem in_let (t4 : ∀ i, i < n → 32 ≤ T i ∧ T i ≤ 126) (d : Nat) (h : ex_H) (Q : Option Value → ex_H → Prop) : Go d 114 0 [some (.long (chr T n q).toInt64), none, some (.long (lN 97)), none, some (.long (lN 100)), none] [] h Q = Q (some (.int (bI (decide (q < n ∧ 97 ≤ T q ∧ T q < 97 + 4))))) h := by
  rw [in_ab (chr T n q) 97 100 (by decide) (by decide)]
  congr 4
  apply decide_eq_decide.mpr
  unfold chr
  by_cases h : q < n
  · have b := t4 q h
    rw [if_pos h, i_int (by omega)]
    omega
  · rw [if_neg h, show (-1 : Int32).toInt = -1 by decide]
    omega
theorem ll_X7_readChild (hk : k < 6) : ∀ m s q M p, c4 s + m = 4 → s < 16 → TPM M n T → M 53 11 = nI p → p ≤ n → sk T n p = q → ∀ d Q o2 o5, Go (d + 1) 131 66 [some (.ref 53), some (.int (nI k)), o2, some (.int (nI kd)), some (.int (nI s)), o5] [] (HP lx xs M) Q = if (rth T n m s q).2 < n ∧ 97 ≤ T (rth T n m s q).2 ∧ T (rth T n m s q).2 < 97 + 4 then Q (some (.int (nI 0))) (HP lx xs (up M 53 11 (nI (rth T n m s q).2))) else Q (some (.int (nI 1))) (HP lx xs (up (up (up M 53 11 (nI (rth T n m s q).2)) 60 (2 * k) (nI kd)) 60 (2 * k + 1) (nI (rth T n m s q).1))) := by
  intro m
  induction m with
  | zero =>
    intro s q M p hc hs hT h5 hp hq d Q o2 o5
    have t4 := hT.2.2.2
    have nb := fun d Q => c_X7_nextByte (d := d) (Q := Q) (lx := lx) (xs := xs) hT h5 hp
    have id1 := sk_idem (T := T) hp
    have hq2 := sk_le (T := T) hp
    rw [hq] at nb id1 hq2
    have nb2 := fun d Q => c_X7_nextByte (d := d) (Q := Q) (lx := lx) (xs := xs) (M := up M 53 11 (nI q)) (TPM_up hT (by decide)) up_at hq2
    rw [id1] at nb2
    simp only [up_up] at nb2
    rw [rth, s_131_66]
    dsimp only
    by_cases h1 : q < n ∧ 97 ≤ T q ∧ T q < 97 + 4
    · have b := t4 q h1.1
      have v : chr T n q - nI 97 = nI (T q - 97) := chr_val h1.1 h1.2.1
      have h2 := c4_full s hs (by omega) (T q - 97) (by omega)
      rw [if_pos h1]
      simp (disch := omega) only [s_131_67, s_131_70, s_131_71, s_131_74, s_131_77, s_131_80, s_131_83, s_131_84, s_131_87, s_131_89, s_131_90, s_131_92, s_131_94, s_131_96, s_131_99, s_131_102, s_131_103_0, s_131_103_1, sb_131_103, s_131_104, s_131_106, s_131_107, s_131_109, s_131_110, s_131_111, s_131_113, s_131_114, s_131_115, s_131_118, s_131_119, s_131_120, s_131_123, s_131_126, s_131_127, s_131_130, s_131_131, s_131_132, s_131_133, s_131_134, s_131_135, s_131_136, s_131_139, s_131_140, s_131_141, s_131_142, s_131_143, s_131_144, s_131_146, s_131_147, s_131_148_0, s_131_148_1, sb_131_148, ↓reduceIte, nb, nb2, ap_some, in_let t4, h1, and_self, decide_true, bI_0, Bool.true_eq_false, v, c_X7_has, h2]
    · rw [if_neg h1]
      simp (disch := omega) only [s_131_67, s_131_70, s_131_71, s_131_74, s_131_77, s_131_80, s_131_83, s_131_84, s_131_87, s_131_89, s_131_90, s_131_92, s_131_94, s_131_96, s_131_99, s_131_102, s_131_103_0, s_131_103_1, sb_131_103, s_131_104, s_131_106, s_131_107, s_131_109, s_131_110, s_131_111, s_131_113, s_131_114, s_131_115, s_131_118, s_131_119, s_131_120, s_131_123, s_131_126, s_131_127, s_131_130, s_131_131, s_131_132, s_131_133, s_131_134, s_131_135, s_131_136, s_131_139, s_131_140, s_131_141, s_131_142, s_131_143, s_131_144, s_131_146, s_131_147, s_131_148_0, s_131_148_1, sb_131_148, ↓reduceIte, nb, ap_some, in_let t4, h1, decide_false, bI_0, i_mul, i_add, i_in, i_cl, true_and]
  | succ m ih =>
    intro s q M p hc hs hT h5 hp hq d Q o2 o5
    have t4 := hT.2.2.2
    have nb := fun d Q => c_X7_nextByte (d := d) (Q := Q) (lx := lx) (xs := xs) hT h5 hp
    have id1 := sk_idem (T := T) hp
    have hq2 := sk_le (T := T) hp
    rw [hq] at nb id1 hq2
    have nb2 := fun d Q => c_X7_nextByte (d := d) (Q := Q) (lx := lx) (xs := xs) (M := up M 53 11 (nI q)) (TPM_up hT (by decide)) up_at hq2
    rw [id1] at nb2
    simp only [up_up] at nb2
    rw [s_131_66]
    by_cases h1 : q < n ∧ 97 ≤ T q ∧ T q < 97 + 4
    · have b := t4 q h1.1
      have v : chr T n q - nI 97 = nI (T q - 97) := chr_val h1.1 h1.2.1
      by_cases h2 : s.testBit (T q - 97) = false
      · have ih2 := ih (s ||| 2 ^ (T q - 97)) (nx T n q) (up M 53 11 (nI (q + 1))) (q + 1) (by rw [c4_or s hs _ (by omega) h2]; omega) (or_lt16 hs (by omega)) (TPM_up hT (by decide)) up_at h1.1 rfl d Q o2 (some (.int (nI (T q - 97))))
        simp only [up_up] at ih2
        rw [show rth T n (m + 1) s q = rth T n m (s ||| 2 ^ (T q - 97)) (nx T n q) by rw [rth, if_pos ⟨h1, h2⟩]]
        simp (disch := omega) only [s_131_67, s_131_70, s_131_71, s_131_74, s_131_77, s_131_80, s_131_83, s_131_84, s_131_87, s_131_89, s_131_90, s_131_92, s_131_94, s_131_96, s_131_99, s_131_102, s_131_103_0, s_131_103_1, sb_131_103, s_131_104, s_131_106, s_131_107, s_131_109, s_131_110, s_131_111, s_131_113, s_131_114, s_131_115, s_131_118, s_131_119, s_131_120, s_131_123, ↓reduceIte, nb, nb2, ap_some, in_let t4, h1, and_self, decide_true, bI_0, Bool.true_eq_false, v, c_X7_has, h2, i_1s, i_or, up_at, i_add, up_up]
        exact ih2
      · rw [show rth T n (m + 1) s q = (s, q) by rw [rth, if_neg (fun z => h2 z.2)]]
        rw [Bool.not_eq_false] at h2
        dsimp only
        rw [if_pos h1]
        simp (disch := omega) only [s_131_67, s_131_70, s_131_71, s_131_74, s_131_77, s_131_80, s_131_83, s_131_84, s_131_87, s_131_89, s_131_90, s_131_92, s_131_94, s_131_96, s_131_99, s_131_102, s_131_103_0, s_131_103_1, sb_131_103, s_131_104, s_131_106, s_131_107, s_131_109, s_131_110, s_131_111, s_131_113, s_131_114, s_131_115, s_131_118, s_131_119, s_131_120, s_131_123, s_131_126, s_131_127, s_131_130, s_131_131, s_131_132, s_131_133, s_131_134, s_131_135, s_131_136, s_131_139, s_131_140, s_131_141, s_131_142, s_131_143, s_131_144, s_131_146, s_131_147, s_131_148_0, s_131_148_1, sb_131_148, ↓reduceIte, nb, nb2, ap_some, in_let t4, h1, and_self, decide_true, bI_0, Bool.true_eq_false, v, c_X7_has, h2]
    · rw [show rth T n (m + 1) s q = (s, q) by rw [rth, if_neg (fun z => h1 z.1)]]
      dsimp only
      rw [if_neg h1]
      simp (disch := omega) only [s_131_67, s_131_70, s_131_71, s_131_74, s_131_77, s_131_80, s_131_83, s_131_84, s_131_87, s_131_89, s_131_90, s_131_92, s_131_94, s_131_96, s_131_99, s_131_102, s_131_103_0, s_131_103_1, sb_131_103, s_131_104, s_131_106, s_131_107, s_131_109, s_131_110, s_131_111, s_131_113, s_131_114, s_131_115, s_131_118, s_131_119, s_131_120, s_131_123, s_131_126, s_131_127, s_131_130, s_131_131, s_131_132, s_131_133, s_131_134, s_131_135, s_131_136, s_131_139, s_131_140, s_131_141, s_131_142, s_131_143, s_131_144, s_131_146, s_131_147, s_131_148_0, s_131_148_1, sb_131_148, ↓reduceIte, nb, ap_some, in_let t4, h1, decide_false, bI_0, i_mul, i_add, i_in, i_cl, true_and]
theorem c_X7_readChild (hk : k < 6) (hT : TPM M n T) (h5 : M 53 11 = nI p) (hp : p ≤ n) (hq : sk T n p = q) : Go (d + 1) 131 0 [some (.ref 53), some (.int (nI k)), none, none, none, none] [] (HP lx xs M) Q = match kq T n q with
    | none => Q (some (.int (nI 0))) (HP lx xs (up M 53 11 (nI q)))
    | some kd => if (rth T n 4 0 (nx T n q)).2 < n ∧ 97 ≤ T (rth T n 4 0 (nx T n q)).2 ∧ T (rth T n 4 0 (nx T n q)).2 < 97 + 4 then Q (some (.int (nI 0))) (HP lx xs (up M 53 11 (nI (rth T n 4 0 (nx T n q)).2))) else Q (some (.int (nI 1))) (HP lx xs (up (up (up M 53 11 (nI (rth T n 4 0 (nx T n q)).2)) 60 (2 * k) (nI kd)) 60 (2 * k + 1) (nI (rth T n 4 0 (nx T n q)).1))) := by
  have t4 := hT.2.2.2
  have nb := fun d Q => c_X7_nextByte (d := d) (Q := Q) (lx := lx) (xs := xs) hT h5 hp
  rw [hq] at nb
  have e : ∀ c, c < 2147483648 → (chr T n q = nI c) = (q < n ∧ T q = c) := fun c hc => chr_eq t4 hc
  match hv : kq T n q with
  | none =>
    dsimp only
    have n1 : (chr T n q = nI 112) = False := by rw [e 112 (by decide)]; exact eq_false fun z => by unfold kq at hv; rw [if_pos z.1, z.2] at hv; cases hv
    have n2 : (chr T n q = nI 104) = False := by rw [e 104 (by decide)]; exact eq_false fun z => by unfold kq at hv; rw [if_pos z.1, z.2] at hv; cases hv
    have n3 : (chr T n q = nI 108) = False := by rw [e 108 (by decide)]; exact eq_false fun z => by unfold kq at hv; rw [if_pos z.1, z.2] at hv; cases hv
    have n4 : (chr T n q = nI 119) = False := by rw [e 119 (by decide)]; exact eq_false fun z => by unfold kq at hv; rw [if_pos z.1, z.2] at hv; cases hv
    simp only [s_131_0, s_131_1, s_131_4, s_131_5, s_131_6, s_131_8, s_131_11, s_131_12, s_131_15, s_131_16, s_131_18, s_131_21, s_131_22, s_131_25, s_131_26, s_131_28, s_131_31, s_131_32, s_131_35, s_131_36, s_131_38, s_131_41, s_131_42, s_131_45, s_131_46, s_131_47, s_131_48, s_131_51, s_131_52_0, s_131_52_1, sb_131_52, ↓reduceIte, nb, ap_some, n1, n2, n3, n4, m1_l0]
  | some kd =>
    dsimp only
    have hqn : q < n := by
      unfold kq at hv
      by_cases h : q < n
      · exact h
      · rw [if_neg h] at hv; cases hv
    have hv2 : kdc (T q) = some kd := by unfold kq at hv; rw [if_pos hqn] at hv; exact hv
    have b := t4 q hqn
    have ec : chr T n q = nI (T q) := if_pos hqn
    rw [ec] at nb
    have hkd := kd_lt hv2
    have ll := ll_X7_readChild (lx := lx) (xs := xs) (k := k) (kd := kd) (n := n) (T := T) hk 4 0 (nx T n q) (up M 53 11 (nI (q + 1))) (q + 1) rfl (by decide) (TPM_up hT (by decide)) up_at hqn rfl d Q (some (.int (nI (T q)))) none
    simp only [up_up] at ll
    unfold kdc at hv2
    by_cases h1 : T q = 112
    · rw [if_pos h1] at hv2; cases hv2
      rw [h1] at nb ll
      simp (disch := omega) only [s_131_0, s_131_1, s_131_4, s_131_5, s_131_6, s_131_8, s_131_11, s_131_12, s_131_15, s_131_16, s_131_18, s_131_21, s_131_22, s_131_25, s_131_26, s_131_28, s_131_31, s_131_32, s_131_35, s_131_36, s_131_38, s_131_41, s_131_42, s_131_45, s_131_46, s_131_47, s_131_48, s_131_51, s_131_52_0, s_131_52_1, sb_131_52, s_131_53, s_131_54, s_131_55, s_131_58, s_131_59, s_131_60, s_131_63, s_131_64, ↓reduceIte, nb, ap_some, show (nI 0 < 0) = False by decide, up_at, i_add, up_up]
      exact ll
    · rw [if_neg h1] at hv2
      by_cases h2 : T q = 104
      · rw [if_pos h2] at hv2; cases hv2
        rw [h2] at nb ll
        simp (disch := omega) only [s_131_0, s_131_1, s_131_4, s_131_5, s_131_6, s_131_8, s_131_11, s_131_12, s_131_15, s_131_16, s_131_18, s_131_21, s_131_22, s_131_25, s_131_26, s_131_28, s_131_31, s_131_32, s_131_35, s_131_36, s_131_38, s_131_41, s_131_42, s_131_45, s_131_46, s_131_47, s_131_48, s_131_51, s_131_52_0, s_131_52_1, sb_131_52, s_131_53, s_131_54, s_131_55, s_131_58, s_131_59, s_131_60, s_131_63, s_131_64, ↓reduceIte, nb, ap_some, i_eq, show ((104 : Nat) = 112) = False by decide, i_l0, up_at, i_add, up_up]
        exact ll
      · rw [if_neg h2] at hv2
        by_cases h3 : T q = 108
        · rw [if_pos h3] at hv2; cases hv2
          rw [h3] at nb ll
          simp (disch := omega) only [s_131_0, s_131_1, s_131_4, s_131_5, s_131_6, s_131_8, s_131_11, s_131_12, s_131_15, s_131_16, s_131_18, s_131_21, s_131_22, s_131_25, s_131_26, s_131_28, s_131_31, s_131_32, s_131_35, s_131_36, s_131_38, s_131_41, s_131_42, s_131_45, s_131_46, s_131_47, s_131_48, s_131_51, s_131_52_0, s_131_52_1, sb_131_52, s_131_53, s_131_54, s_131_55, s_131_58, s_131_59, s_131_60, s_131_63, s_131_64, ↓reduceIte, nb, ap_some, i_eq, show ((108 : Nat) = 112) = False by decide, show ((108 : Nat) = 104) = False by decide, i_l0, up_at, i_add, up_up]
          exact ll
        · rw [if_neg h3] at hv2
          by_cases h4 : T q = 119
          · rw [if_pos h4] at hv2; cases hv2
            rw [h4] at nb ll
            simp (disch := omega) only [s_131_0, s_131_1, s_131_4, s_131_5, s_131_6, s_131_8, s_131_11, s_131_12, s_131_15, s_131_16, s_131_18, s_131_21, s_131_22, s_131_25, s_131_26, s_131_28, s_131_31, s_131_32, s_131_35, s_131_36, s_131_38, s_131_41, s_131_42, s_131_45, s_131_46, s_131_47, s_131_48, s_131_51, s_131_52_0, s_131_52_1, sb_131_52, s_131_53, s_131_54, s_131_55, s_131_58, s_131_59, s_131_60, s_131_63, s_131_64, ↓reduceIte, nb, ap_some, i_eq, show ((119 : Nat) = 112) = False by decide, show ((119 : Nat) = 104) = False by decide, show ((119 : Nat) = 108) = False by decide, i_l0, up_at, i_add, up_up]
            exact ll
          · rw [if_neg h4] at hv2; cases hv2
end SC
