/-! hours: the class's search from its beginning -/
theorem rk_s (s t : Nat) : rk s (t + 1) = rk s t + (if s.testBit t then 1 else 0) := by
  unfold rk
  rw [ls_s]
  by_cases h : s.testBit t = true
  · rw [if_pos h, if_pos h, List.length_append]; rfl
  · rw [if_neg h, if_neg h]; rfl
theorem rk_4 : ∀ s, s < 16 → rk s 4 = pcn s := by decide +kernel
theorem rk_le {s t : Nat} (hs : s < 16) (ht : t ≤ 4) : rk s t ≤ pcn s := by
  rw [← rk_4 s hs]
  exact ls_mono _ ht
/-- the state at first: what is known of the set -/
def stP (S : Nat → Nat → Nat) (s k C X : Nat) : Prop := ∀ j, X.testBit j = true ↔ ∃ c i, c < S 0 0 ∧ (i < k ∨ (i = k ∧ c < C)) ∧ j = c * pcn s + i ∧ (kn (S 2) c).testBit (thg s i) = true
theorem stP_un {S : Nat → Nat → Nat} {s k C X Y : Nat} (a : stP S s k C X) (b : stP S s k C Y) : X = Y := Nat.eq_of_testBit_eq fun i => by rw [Bool.eq_iff_iff]; exact (a i).trans (b i).symm
theorem stP_s {S : Nat → Nat → Nat} {s k C X : Nat} (hC : C < S 0 0) (h : stP S s k C X) : stP S s k (C + 1) (if (kn (S 2) C).testBit (thg s k) = true then X ||| 2 ^ (C * pcn s + k) else X) := by
  intro j
  by_cases hb : (kn (S 2) C).testBit (thg s k) = true
  · rw [if_pos hb, Nat.testBit_or, Bool.or_eq_true, h j]
    constructor
    · rintro (⟨c, i, q1, q2, q3, q4⟩ | q)
      · exact ⟨c, i, q1, by omega, q3, q4⟩
      · exact ⟨C, k, hC, by omega, bit_p q, hb⟩
    · rintro ⟨c, i, q1, q2, q3, q4⟩
      by_cases z : i = k ∧ c = C
      · right; rw [q3, z.1, z.2]; exact Nat.testBit_two_pow_self
      · exact Or.inl ⟨c, i, q1, by omega, q3, q4⟩
  · rw [if_neg hb, h j]
    constructor
    · rintro ⟨c, i, q1, q2, q3, q4⟩
      exact ⟨c, i, q1, by omega, q3, q4⟩
    · rintro ⟨c, i, q1, q2, q3, q4⟩
      by_cases z : i = k ∧ c = C
      · rw [z.1, z.2] at q4; exact absurd q4 hb
      · exact ⟨c, i, q1, by omega, q3, q4⟩
theorem stP_lt {S : Nat → Nat → Nat} {s k C X : Nat} (hb : S 0 0 * pcn s ≤ 12) (hk : k ≤ pcn s) (hC : k = pcn s → C = 0) (h : stP S s k C X) : sub X (fl S s) := by
  intro j hj
  obtain ⟨c, i, q1, q2, q3, -⟩ := (h j).mp hj
  unfold fl
  rw [tp_bit, q3]
  exact pos_lt q1 (by omega)
section LO
variable {d : Nat} {L : ex_L} {Q : Option Value → ex_H → Prop} {lx : Nat} {xs : Nat → Int32} {M : Nat → Nat → Int32} {S : Nat → Nat → Nat} {s X N : Nat}
theorem c_X4_squeeze (hs : s < 16) (hN : N < 16) : Go (d + 1) 95 0 [some (.int (nI N)), some (.int (nI s)), none, none, none] [] (HP lx xs M) Q = Q (some (.int (nI (sqz s N)))) (HP lx xs M) := by
  obtain ⟨t1, t2, t3⟩ := th_rk s hs
  have lp := loopN (fun t => Go (d + 1) 95 7 [some (.int (nI N)), some (.int (nI s)), some (.int (nI (mskn (fun k => N.testBit (thg s k)) (rk s t)))), some (.int (nI (rk s t))), some (.int (nI t))] [] (HP lx xs M) Q) 4 fun t ht => by
    show Go (d + 1) _ 7 _ _ _ _ = Go (d + 1) _ 7 _ _ _ _
    have hr := rk_le hs (by omega : t ≤ 4)
    have hm := mskn_lt (fun k => N.testBit (thg s k)) (rk s t)
    have hp : 2 ^ rk s t ≤ 16 := Nat.pow_le_pow_right (by decide : 0 < 2) (by omega : rk s t ≤ 4)
    rw [s_95_7, rk_s]
    by_cases h1 : s.testBit t = true
    · obtain ⟨a1, a2⟩ := t1 t ht h1
      rw [if_pos h1, mskn, a2]
      by_cases h2 : N.testBit t = true
      · rw [if_pos h2]
        simp (disch := omega) only [s_95_9, s_95_10, s_95_13, s_95_14, s_95_16, s_95_19, s_95_22, s_95_25, s_95_26, s_95_28, s_95_31, s_95_34, s_95_35, s_95_36, s_95_37, s_95_38, s_95_39, s_95_40, s_95_43, s_95_46, ↓reduceIte, i_lt, ht, c_X6_has, h1, h2, ap_some, bI_0, Bool.true_eq_false, i_1s, i_or, i_add]
      · rw [if_neg h2, Nat.or_zero]
        rw [Bool.not_eq_true] at h2
        simp (disch := omega) only [s_95_9, s_95_10, s_95_13, s_95_14, s_95_16, s_95_19, s_95_22, s_95_25, s_95_26, s_95_28, s_95_31, s_95_34, s_95_35, s_95_36, s_95_37, s_95_38, s_95_39, s_95_40, s_95_43, s_95_46, ↓reduceIte, i_lt, ht, c_X6_has, h1, h2, ap_some, bI_0, Bool.true_eq_false, i_add]
    · rw [if_neg h1]
      rw [Bool.not_eq_true] at h1
      simp (disch := omega) only [s_95_9, s_95_10, s_95_13, s_95_14, s_95_16, s_95_19, s_95_22, s_95_25, s_95_26, s_95_28, s_95_31, s_95_34, s_95_35, s_95_36, s_95_37, s_95_38, s_95_39, s_95_40, s_95_43, s_95_46, ↓reduceIte, i_lt, ht, c_X6_has, h1, ap_some, bI_0, i_add]
      rfl
  try dsimp only at lp
  simp only [s_95_0, s_95_1, s_95_2, s_95_3, s_95_4, s_95_5]
  refine Eq.trans lp ?_
  rw [s_95_7, rk_4 s hs]
  simp (disch := omega) only [s_95_9, s_95_10, s_95_49, s_95_50, ↓reduceIte, i_lt, Nat.lt_irrefl]
  rfl
theorem c_fill37 : Go d 13 0 [some (.ref 37), some (.int (nI 0)), none, none] [] (HP lx xs M) Q = Q none (HP lx xs (upr M 37 (mix (M 37) (fun _ => nI 0) 6))) := by
  simp only [s_13_0, s_13_1, s_13_2, s_13_3_37, s_13_3_43, s_13_3_46, s_13_3_48, s_13_3_50, s_13_3_52, s_13_4]
  have l := loopN (fun j => Go d 13 5 [some (.ref 37), some (.int (nI 0)), some (.int (nI j)), some (.int (nI 6))] [] (HP lx xs (upr M 37 (mix (M 37) (fun _ => nI 0) j))) Q) 6 fun j hj => by
    show Go d _ 5 _ _ _ _ = Go d _ 5 _ _ _ _
    rw [s_13_5]
    simp (disch := omega) only [s_13_6, s_13_7, s_13_10, s_13_11, s_13_12, s_13_13_37, s_13_13_43, s_13_13_46, s_13_13_48, s_13_13_50, s_13_13_52, s_13_14, s_13_17, ↓reduceIte, i_lt, hj, i_in, i_cl, true_and, up_upr, i_add]
    rw [mix_up (g := fun _ => nI 0)]
  try dsimp only at l
  rw [mix_0, upr_self] at l
  rw [l, s_13_5]
  simp (disch := omega) only [s_13_6, s_13_7, s_13_10, s_13_11, s_13_12, s_13_13_37, s_13_13_43, s_13_13_46, s_13_13_48, s_13_13_50, s_13_13_52, s_13_14, s_13_17, s_13_20, ↓reduceIte, i_lt, Nat.lt_irrefl]
theorem vp_0 : vp_nar .byte (nI 0) = nI 0 := rfl
theorem c_fill41 : Go d 14 0 [some (.ref 41), some (.int (nI 0)), none, none] [] (HP lx xs M) Q = Q none (HP lx xs (upr M 41 (mix (M 41) (fun _ => nI 0) 4096))) := by
  simp only [s_14_0, s_14_1, s_14_2, s_14_3, s_14_4]
  have l := loopN (fun j => Go d 14 5 [some (.ref 41), some (.int (nI 0)), some (.int (nI j)), some (.int (nI 4096))] [] (HP lx xs (upr M 41 (mix (M 41) (fun _ => nI 0) j))) Q) 4096 fun j hj => by
    show Go d _ 5 _ _ _ _ = Go d _ 5 _ _ _ _
    rw [s_14_5]
    simp (disch := omega) only [s_14_6, s_14_7, s_14_10, s_14_11, s_14_12, s_14_13, s_14_14, s_14_17, ↓reduceIte, i_lt, hj, i_in, i_cl, true_and, vp_0, up_upr, i_add]
    rw [mix_up (g := fun _ => nI 0)]
  try dsimp only at l
  rw [mix_0, upr_self] at l
  rw [l, s_14_5]
  simp (disch := omega) only [s_14_6, s_14_7, s_14_10, s_14_11, s_14_12, s_14_13, s_14_14, s_14_17, s_14_20, ↓reduceIte, i_lt, Nat.lt_irrefl]
theorem cp_load : Go (d + 1) 94 192 L [.int (nI 6), .int (nI 0), .ref 38, .int (nI 0), .ref 6] (HP lx xs M) Q = Go (d + 1) 94 195 L [] (HP lx xs (upr M 38 (va_cpy (M 6) (M 38) 0 0 6))) Q := go_cp (v := 0) rfl rfl rfl (by decide) (by decide) (by decide) (by decide) hs_38
/-- load, one thing: what its children know of it, and for whom it is open -/
theorem ll_load2 (hW : WF S) (hs : s < 16) (hb : S 0 0 * pcn s ≤ 12) {t : Nat} (ht : t < 4) (hst : s.testBit t = true) : ∀ m C M X, C + m = S 0 0 → RepC M 2 S → M 35 6 = nI (S 0 0) → M 35 7 = nI (pcn s) → (∀ c, c < S 0 0 → M 37 c = nI (mskn (opb S s c) (if c < C then rk s t + 1 else rk s t))) → stP S s (rk s t) C X → ∃ M1 X1, (∀ c, c ≠ 37 → M1 c = M c) ∧ (∀ c, c < S 0 0 → M1 37 c = nI (mskn (opb S s c) (rk s t + 1))) ∧ stP S s (rk s t) (S 0 0) X1 ∧ ∀ d Q, Go (d + 1) 94 88 [some (.ref 35), some (.ref 2), some (.int (nI s)), some (.int (nI X)), some (.int (nI (rk s t))), some (.int (nI t)), some (.int (nI C))] [] (HP lx xs M) Q = Go (d + 1) 94 171 [some (.ref 35), some (.ref 2), some (.int (nI s)), some (.int (nI X1)), some (.int (nI (rk s t))), some (.int (nI t)), some (.int (nI (S 0 0)))] [] (HP lx xs M1) Q := by
  have w1 := hW.1
  obtain ⟨t1, t2, t3⟩ := th_rk s hs
  obtain ⟨r1, r2⟩ := t1 t ht hst
  intro m
  induction m with
  | zero =>
    intro C M X hC hR h6 h7 h37 hX
    have e : C = S 0 0 := by omega
    subst e
    refine ⟨M, X, fun _ _ => rfl, fun c hc => by rw [h37 c hc, if_pos hc], hX, fun d Q => ?_⟩
    rw [s_94_88]
    simp (disch := omega) only [s_94_90, s_94_91, s_94_94, ↓reduceIte, h6, i_lt, Nat.lt_irrefl]
  | succ m ih =>
    intro C M X hC hR h6 h7 h37 hX
    have hC2 : C < S 0 0 := by omega
    have c6 := hR.2.2.2.2.2.1 C hC2
    have c8 := hR.2.2.2.2.2.2.2.1 t ht
    simp only [Nat.reduceAdd] at c6 c8
    have k1 := kn_lt (S 2) C
    have w7 := hW.2.2.2.2.2.2.1 t ht
    have h37C := h37 C hC2
    rw [if_neg (Nat.lt_irrefl C)] at h37C
    have hm := mskn_lt (opb S s C) (rk s t)
    have hp : 2 ^ rk s t ≤ 16 := Nat.pow_le_pow_right (by decide : 0 < 2) (by omega : rk s t ≤ 4)
    have pl := pos_lt hC2 r1
    have hX4 : X < 4096 := Nat.lt_of_le_of_lt (sub_le (stP_lt hb (by omega) (fun q => by omega) hX)) (fl_lt hb)
    have hx1 := stP_s hC2 hX
    rw [r2] at hx1
    have hwl : wo (wo (S 4 t) s) (kn (S 2) C) < 2147483648 := by
      have := wo_le (wo (S 4 t) s) (kn (S 2) C)
      have := wo_le (S 4 t) s
      omega
    have hop : opb S s C (rk s t) = true ↔ wo (wo (S 4 t) s) (kn (S 2) C) = 0 := by
      unfold opb
      simp only [decide_eq_true_eq]
      rw [r2, wo_0]
      constructor
      · intro q j hj
        rw [wo_bit, Bool.and_eq_true, Bool.not_eq_true'] at hj
        exact q j (tb_lt (n := 4) w7 hj.1) hj.1 hj.2
      · intro q u hu h1 h2
        exact q u (by rw [wo_bit, h1, h2]; rfl)
    -- first half
    have st1 : ∀ d Q, Go (d + 1) 94 88 [some (.ref 35), some (.ref 2), some (.int (nI s)), some (.int (nI X)), some (.int (nI (rk s t))), some (.int (nI t)), some (.int (nI C))] [] (HP lx xs M) Q = Go (d + 1) 94 127 [some (.ref 35), some (.ref 2), some (.int (nI s)), some (.int (nI (if (kn (S 2) C).testBit t = true then X ||| 2 ^ (C * pcn s + rk s t) else X))), some (.int (nI (rk s t))), some (.int (nI t)), some (.int (nI C))] [] (HP lx xs M) Q := by
      intro d Q
      rw [s_94_88]
      by_cases hkn : (kn (S 2) C).testBit t = true
      · rw [if_pos hkn]
        simp (disch := omega) only [s_94_90, s_94_91, s_94_94, s_94_97, s_94_98, s_94_101, s_94_103, s_94_104, s_94_106, s_94_109, s_94_112, s_94_113, s_94_114, s_94_116, s_94_117, s_94_120, s_94_121, s_94_123, s_94_124, s_94_125, s_94_126, ↓reduceIte, h6, i_lt, hC2, i_in, i_cl, true_and, c6, c_X6_has, hkn, ap_some, bI_0, Bool.true_eq_false, h7, i_mul, i_add, i_1s, i_or]
      · rw [if_neg hkn]
        rw [Bool.not_eq_true] at hkn
        simp (disch := omega) only [s_94_90, s_94_91, s_94_94, s_94_97, s_94_98, s_94_101, s_94_103, s_94_104, s_94_106, s_94_109, s_94_112, s_94_113, s_94_114, s_94_116, s_94_117, s_94_120, s_94_121, s_94_123, s_94_124, s_94_125, s_94_126, ↓reduceIte, h6, i_lt, hC2, i_in, i_cl, true_and, c6, c_X6_has, hkn, ap_some, bI_0]
    by_cases ho : wo (wo (S 4 t) s) (kn (S 2) C) = 0
    · have hob := hop.mpr ho
      obtain ⟨M1, X1, q1, q2, q3, q4⟩ := ih (C + 1) (up M 37 C (nI (mskn (opb S s C) (rk s t + 1)))) _ (by omega) (RepC_eq hR fun c p q => up_ne _ _ _ (by omega)) (by rw [up_ne _ _ _ (by decide)]; exact h6) (by rw [up_ne _ _ _ (by decide)]; exact h7) (fun c hc => by
        by_cases z : c = C
        · rw [z, up_at, if_pos (by omega)]
        · rw [up_off z, h37 c hc]
          by_cases z2 : c < C
          · rw [if_pos z2, if_pos (by omega)]
          · rw [if_neg z2, if_neg (by omega)]) hx1
      refine ⟨M1, X1, fun c hc => (q1 c hc).trans (up_ne _ _ _ hc), q2, q3, fun d Q => ?_⟩
      have q5 := q4 d Q
      rw [mskn, if_pos hob] at q5
      rw [st1]
      simp (disch := first | omega | assumption) only [s_94_127, s_94_128, s_94_131, s_94_133, s_94_134, s_94_135, s_94_136, s_94_137, s_94_138, s_94_139, s_94_142, s_94_144, s_94_145, s_94_146, s_94_147, s_94_148, s_94_151, s_94_152, s_94_155, s_94_157, s_94_158, s_94_159, s_94_160, s_94_162, s_94_163, s_94_164, s_94_165, s_94_168, ↓reduceIte, i_in, i_cl, true_and, c8, i_wo, c6, i_e0, ho, h37C, i_1s, i_or, i_add]
      exact q5
    · have hob : opb S s C (rk s t) = false := by rw [← Bool.not_eq_true, hop]; exact ho
      obtain ⟨M1, X1, q1, q2, q3, q4⟩ := ih (C + 1) M _ (by omega) hR h6 h7 (fun c hc => by
        by_cases z : c = C
        · rw [z, if_pos (by omega), mskn, hob, if_neg (by simp), Nat.or_zero]; exact h37C
        · rw [h37 c hc]
          by_cases z2 : c < C
          · rw [if_pos z2, if_pos (by omega)]
          · rw [if_neg z2, if_neg (by omega)]) hx1
      refine ⟨M1, X1, q1, q2, q3, fun d Q => ?_⟩
      rw [st1]
      simp (disch := first | omega | assumption) only [s_94_127, s_94_128, s_94_131, s_94_133, s_94_134, s_94_135, s_94_136, s_94_137, s_94_138, s_94_139, s_94_142, s_94_144, s_94_145, s_94_146, s_94_147, s_94_148, s_94_151, s_94_152, s_94_155, s_94_157, s_94_158, s_94_159, s_94_160, s_94_162, s_94_163, s_94_164, s_94_165, s_94_168, ↓reduceIte, i_in, i_cl, true_and, c8, i_wo, c6, i_e0, ho, i_add]
      exact q4 d Q
theorem ll_load1 (hW : WF S) (hs : s < 16) (hb : S 0 0 * pcn s ≤ 12) : ∀ m t M X, t + m = 4 → RepC M 2 S → M 35 6 = nI (S 0 0) → M 35 7 = nI (pcn s) → (∀ i, i < rk s t → M 36 i = nI (sqz s (S 4 (thg s i)))) → (∀ c, c < S 0 0 → M 37 c = nI (mskn (opb S s c) (rk s t))) → stP S s (rk s t) 0 X → ∃ M1 X1, (∀ c, c ≠ 36 → c ≠ 37 → M1 c = M c) ∧ (∀ i, i < pcn s → M1 36 i = nI (sqz s (S 4 (thg s i)))) ∧ (∀ c, c < S 0 0 → M1 37 c = nI (opm S s c)) ∧ stP S s (pcn s) 0 X1 ∧ ∀ d Q o6, ∃ o6', Go (d + 2) 94 49 [some (.ref 35), some (.ref 2), some (.int (nI s)), some (.int (nI X)), some (.int (nI (rk s t))), some (.int (nI t)), o6] [] (HP lx xs M) Q = Go (d + 2) 94 180 [some (.ref 35), some (.ref 2), some (.int (nI s)), some (.int (nI X1)), some (.int (nI (pcn s))), some (.int (nI 4)), o6'] [] (HP lx xs M1) Q := by
  have w1 := hW.1
  obtain ⟨t1, t2, t3⟩ := th_rk s hs
  intro m
  induction m with
  | zero =>
    intro t M X ht hR h6 h7 h36 h37 hX
    have e : t = 4 := by omega
    subst e
    rw [rk_4 s hs] at h36 h37 hX
    refine ⟨M, X, fun _ _ _ => rfl, h36, h37, hX, fun d Q o6 => ⟨o6, ?_⟩⟩
    rw [s_94_49, rk_4 s hs]
    simp (disch := omega) only [s_94_51, s_94_52, ↓reduceIte, i_lt, Nat.lt_irrefl]
  | succ m ih =>
    intro t M X ht hR h6 h7 h36 h37 hX
    have ht4 : t < 4 := by omega
    have w7 := hW.2.2.2.2.2.2.1 t ht4
    have c8 := hR.2.2.2.2.2.2.2.1 t ht4
    simp only [Nat.reduceAdd] at c8
    have hr := rk_le hs (by omega : t ≤ 4)
    by_cases hst : s.testBit t = true
    · obtain ⟨r1, r2⟩ := t1 t ht4 hst
      have hrs : rk s (t + 1) = rk s t + 1 := by rw [rk_s, if_pos hst]
      have sq := fun d Q => c_X4_squeeze (d := d) (Q := Q) (lx := lx) (xs := xs) (M := M) hs w7
      obtain ⟨M1, X1, q1, q2, q3, q4⟩ := ll_load2 (lx := lx) (xs := xs) hW hs hb ht4 hst (S 0 0) 0 (up M 36 (rk s t) (nI (sqz s (S 4 t)))) X (by omega) (RepC_eq hR fun c p q => up_ne _ _ _ (by omega)) (by rw [up_ne _ _ _ (by decide)]; exact h6) (by rw [up_ne _ _ _ (by decide)]; exact h7) (fun c hc => by rw [up_ne _ _ _ (by decide), if_neg (by omega)]; exact h37 c hc) hX
      obtain ⟨M2, X2, u1, u2, u3, u4, u5⟩ := ih (t + 1) M1 X1 (by omega) (RepC_eq hR fun c p q => by rw [q1 c (by omega), up_ne _ _ _ (by omega)]) (by rw [q1 35 (by decide), up_ne _ _ _ (by decide)]; exact h6) (by rw [q1 35 (by decide), up_ne _ _ _ (by decide)]; exact h7) (fun i hi => by
        rw [hrs] at hi
        rw [q1 36 (by decide)]
        by_cases z : i = rk s t
        · rw [z, up_at, r2]
        · rw [up_off z]; exact h36 i (by omega)) (fun c hc => by rw [hrs]; exact q2 c hc) (by
        rw [hrs]
        intro j
        rw [q3 j]
        constructor
        · rintro ⟨c, i, z1, z2, z3, z4⟩; exact ⟨c, i, z1, by omega, z3, z4⟩
        · rintro ⟨c, i, z1, z2, z3, z4⟩; exact ⟨c, i, z1, by omega, z3, z4⟩)
      refine ⟨M2, X2, fun c z1 z2 => by rw [u1 c z1 z2, q1 c z2, up_ne _ _ _ z1], u2, u3, u4, fun d Q o6 => ?_⟩
      obtain ⟨o6', u6⟩ := u5 d Q (some (.int (nI (S 0 0))))
      refine ⟨o6', ?_⟩
      rw [← u6, hrs, s_94_49]
      have q5 := q4 (d + 1) Q
      simp (disch := omega) only [s_94_51, s_94_52, s_94_55, s_94_56, s_94_58, s_94_61, s_94_64, s_94_67, s_94_68, s_94_71, s_94_73, s_94_74, s_94_77, s_94_79, s_94_80, s_94_81, s_94_84, s_94_85, s_94_86, ↓reduceIte, i_lt, ht4, c_X6_has, hst, ap_some, bI_0, Bool.true_eq_false, i_in, i_cl, true_and, c8, sq]
      refine Eq.trans q5 ?_
      simp (disch := omega) only [s_94_171, s_94_174, s_94_177, i_add]
    · have hrs : rk s (t + 1) = rk s t := by rw [rk_s, if_neg hst, Nat.add_zero]
      obtain ⟨M2, X2, u1, u2, u3, u4, u5⟩ := ih (t + 1) M X (by omega) hR h6 h7 (by rw [hrs]; exact h36) (by rw [hrs]; exact h37) (by rw [hrs]; exact hX)
      refine ⟨M2, X2, u1, u2, u3, u4, fun d Q o6 => ?_⟩
      obtain ⟨o6', u6⟩ := u5 d Q o6
      refine ⟨o6', ?_⟩
      rw [Bool.not_eq_true] at hst
      rw [← u6, hrs, s_94_49]
      simp (disch := omega) only [s_94_51, s_94_52, s_94_55, s_94_56, s_94_58, s_94_61, s_94_64, s_94_174, s_94_177, ↓reduceIte, i_lt, ht4, c_X6_has, hst, ap_some, bI_0, i_add]
theorem c_X4_load (hW : WF S) (hs : s < 16) (hb : S 0 0 * pcn s ≤ 12) (hR : RepC M 2 S) : ∃ M1 X, (∀ c, c < 35 ∨ 38 < c → M1 c = M c) ∧ SEf M1 S s ∧ stP S s (pcn s) 0 X ∧ ∀ d Q, Go (d + 2) 94 0 [some (.ref 35), some (.ref 2), some (.int (nI s)), none, none, none, none] [] (HP lx xs M) Q = Q (some (.int (nI X))) (HP lx xs M1) := by
  have w1 := hW.1
  have p4 := (th_rk s hs).2.2
  have fl4 := fl_lt hb
  obtain ⟨N, hN⟩ : ∃ N, N = upr (up (up (up M 35 6 (nI (S 0 0))) 35 7 (nI (pcn s))) 35 8 (nI (fl S s))) 37 (mix ((up (up (up M 35 6 (nI (S 0 0))) 35 7 (nI (pcn s))) 35 8 (nI (fl S s))) 37) (fun _ => nI 0) 6) := ⟨_, rfl⟩
  have nf : ∀ c, c ≠ 35 → c ≠ 37 → N c = M c := fun c h1 h2 => by rw [hN, upr_ne _ _ h2, up_ne _ _ _ h1, up_ne _ _ _ h1, up_ne _ _ _ h1]
  have n6 : N 35 6 = nI (S 0 0) := by rw [hN, upr_ne _ _ (by decide), up_off (by decide), up_off (by decide), up_at]
  have n7 : N 35 7 = nI (pcn s) := by rw [hN, upr_ne _ _ (by decide), up_off (by decide), up_at]
  have n8 : N 35 8 = nI (fl S s) := by rw [hN, upr_ne _ _ (by decide), up_at]
  have hRN : RepC N 2 S := RepC_eq hR fun c p q => nf c (by omega) (by omega)
  have rk0 : rk s 0 = 0 := rfl
  obtain ⟨M1, X, r1, r2, r3, r4, r5⟩ := ll_load1 (lx := lx) (xs := xs) hW hs hb 4 0 N 0 (by omega) hRN n6 n7 (fun i hi => by rw [rk0] at hi; omega) (fun c hc => by rw [hN, upr_eq, mix_lt (by omega)]; rfl) (fun j => by
    rw [Nat.zero_testBit, rk0]
    constructor
    · intro q; cases q
    · rintro ⟨c, i, -, q, -⟩; omega)
  have c7 := hR.2.2.2.2.2.2.1
  simp only [Nat.reduceAdd] at c7
  refine ⟨upr M1 38 (va_cpy (M1 6) (M1 38) 0 0 6), X, fun c hc => by rw [upr_ne _ _ (by omega), r1 c (by omega) (by omega), nf c (by omega) (by omega)], ⟨by rw [upr_ne _ _ (by decide), r1 35 (by decide) (by decide)]; exact n6, by rw [upr_ne _ _ (by decide), r1 35 (by decide) (by decide)]; exact n7, by rw [upr_ne _ _ (by decide), r1 35 (by decide) (by decide)]; exact n8, by rw [upr_ne _ _ (by decide)]; exact r2, by rw [upr_ne _ _ (by decide)]; exact r3, fun c hc => ?_⟩, r4, fun d Q => ?_⟩
  · rw [upr_eq]
    unfold va_cpy
    rw [if_pos (by omega), show 0 + (c - 0) = c by omega, r1 6 (by decide) (by decide), nf 6 (by decide) (by decide)]
    exact c7 c hc
  · obtain ⟨o6', r6⟩ := r5 d Q none
    have c1 := hR.1
    have pw : 0 < 2 ^ (S 0 0 * pcn s) := Nat.two_pow_pos _
    have e8 : nI (2 ^ (S 0 0 * pcn s) - 1) = nI (fl S s) := rfl
    simp (disch := omega) only [s_94_0, s_94_1, s_94_2, s_94_5, s_94_8, s_94_9, s_94_10, s_94_13, s_94_16, s_94_17, s_94_18, s_94_19, s_94_22, s_94_23, s_94_26, s_94_27, s_94_28, s_94_29, s_94_30, s_94_33, s_94_34, s_94_37, s_94_38, s_94_41, s_94_42, s_94_43, s_94_44, s_94_46, s_94_47, c1, c_bitCount, ap_some, ap_none, up_at, up_off, i_mul, i_1s, i_sub, e8, c_fill37]
    rw [← hN]
    refine Eq.trans r6 ?_
    simp (disch := omega) only [s_94_180, s_94_181, s_94_184, s_94_185, s_94_186, s_94_189, s_94_190, s_94_195, s_94_196, cp_load]
end LO
