/-! hours: the reference's own search, one hour -/
def TH (M : Nat → Nat → Int32) (s : Nat) : Prop := M 53 17 = nI (pcn s) ∧ ∀ i, i < pcn s → M 63 i = nI (thg s i)
/-- what a child knows, with what the state says -/
def kx (S : Nat → Nat → Nat) (s X b : Nat) : Nat → Nat
  | 0 => kn (S 2) b
  | j + 1 => if X.testBit (b * pcn s + j) = true then kx S s X b j ||| 2 ^ thg s j else kx S s X b j
theorem vp_t : vp_nar .boolean (nI 1) = nI 1 := rfl
theorem vp_f : vp_nar .boolean (nI 0) = nI 0 := rfl
section MA
variable {d : Nat} {Q : Option Value → ex_H → Prop} {lx : Nat} {xs : Nat → Int32} {M : Nat → Nat → Int32} {S : Nat → Nat → Nat} {s X st a b i u : Nat}
theorem kx_bit : ∀ j, (kx S s X b j).testBit u = true ↔ (kn (S 2) b).testBit u = true ∨ ∃ i, i < j ∧ X.testBit (b * pcn s + i) = true ∧ u = thg s i := by
  intro j
  induction j with
  | zero =>
    rw [kx]
    constructor
    · exact Or.inl
    · rintro (q | ⟨i, q, -⟩)
      · exact q
      · omega
  | succ j ih =>
    rw [kx]
    by_cases h : X.testBit (b * pcn s + j) = true
    · rw [if_pos h, Nat.testBit_or, Bool.or_eq_true, ih]
      constructor
      · rintro ((q | ⟨i, q1, q2⟩) | q)
        · exact Or.inl q
        · exact Or.inr ⟨i, by omega, q2⟩
        · exact Or.inr ⟨j, by omega, h, bit_p q⟩
      · rintro (q | ⟨i, q1, q2, q3⟩)
        · exact Or.inl (Or.inl q)
        · by_cases z : i = j
          · right; rw [q3, z]; exact Nat.testBit_two_pow_self
          · exact Or.inl (Or.inr ⟨i, by omega, q2, q3⟩)
    · rw [if_neg h, ih]
      constructor
      · rintro (q | ⟨i, q1, q2⟩)
        · exact Or.inl q
        · exact Or.inr ⟨i, by omega, q2⟩
      · rintro (q | ⟨i, q1, q2, q3⟩)
        · exact Or.inl q
        · by_cases z : i = j
          · rw [z] at q2; exact absurd q2 h
          · exact Or.inr ⟨i, by omega, q2, q3⟩
theorem kx_lt (hs : s < 16) : ∀ j, j ≤ pcn s → kx S s X b j < 16 := by
  intro j
  induction j with
  | zero => intro _; rw [kx]; exact kn_lt _ _
  | succ j ih =>
    intro hj
    rw [kx]
    split
    · exact or_lt16 (ih (by omega)) ((th_rk s hs).2.1 j (by omega)).1
    · exact ih (by omega)
theorem kx_nd (hW : WF S) (hs : s < 16) (hb' : b < S 0 0) (hst : stP S s (pcn s) 0 st) (hX : sub st X) (hi : i < pcn s) : wo (S 4 (thg s i)) (kx S s X b (pcn s)) = 0 ↔ ndP S s X b i := by
  obtain ⟨t1, t2, t3⟩ := th_rk s hs
  have w7 := hW.2.2.2.2.2.2.1 (thg s i) (t2 i hi).1
  rw [wo_0]
  constructor
  · intro h u hu hn
    have q := (kx_bit (pcn s)).mp (h u hn)
    by_cases hsu : s.testBit u = true
    · refine Or.inl ⟨hsu, ?_⟩
      obtain ⟨r1, r2⟩ := t1 u hu hsu
      rcases q with q | ⟨i', q1, q2, q3⟩
      · exact hX _ ((hst _).mpr ⟨b, rk s u, hb', Or.inl r1, rfl, by rw [r2]; exact q⟩)
      · rw [q3, (t2 i' q1).2.2]; exact q2
    · rw [Bool.not_eq_true] at hsu
      refine Or.inr ⟨hsu, ?_⟩
      rcases q with q | ⟨i', q1, q2, q3⟩
      · exact q
      · rw [q3, (t2 i' q1).2.1] at hsu; cases hsu
  · intro h u hn
    have hu : u < 4 := tb_lt (n := 4) w7 hn
    refine (kx_bit (pcn s)).mpr ?_
    rcases h u hu hn with ⟨q1, q2⟩ | ⟨q1, q2⟩
    · obtain ⟨r1, r2⟩ := t1 u hu q1
      exact Or.inr ⟨rk s u, r1, q2, r2.symm⟩
    · exact Or.inl q2
theorem c_X7_mayTeach (hW : WF S) (hs : s < 16) (hb : S 0 0 * pcn s ≤ 12) (hC : RepM M S) (hT : TH M s) (hst : stP S s (pcn s) 0 st) (hX : sub st X) (hX4 : X < 4096) (ha : a < S 0 0) (hb' : b < S 0 0) (hi : i < pcn s) : Go (d + 1) 143 0 [some (.ref 53), some (.int (nI X)), some (.int (nI a)), some (.int (nI b)), some (.int (nI i)), none, none, none] [] (HP lx xs M) Q = Q (some (.int (bI (mT S s X a b i)))) (HP lx xs M) := by
  have w1 := hW.1
  obtain ⟨t1, t2, t3⟩ := th_rk s hs
  obtain ⟨c1, c2, c3, c4, c5, c6, c7, c8, c9⟩ := hC
  obtain ⟨h17, h63⟩ := hT
  have e63 := h63 i hi
  have e55 := c6 b (by omega)
  have w6 := hW.2.2.2.2.2.1 b (by omega)
  have pa := pos_lt ha hi
  have pb := pos_lt hb' hi
  have ma := Nat.mul_comm (pcn s) a
  have mb := Nat.mul_comm (pcn s) b
  have q2 := (t2 i hi).1
  have w7 := hW.2.2.2.2.2.2.1 (thg s i) q2
  have e57 := c7 (thg s i) q2
  have kt := fun d Q => c_X7_knownTo (d := d) (Q := Q) (lx := lx) (xs := xs) (by omega : b < 6) c5 hW.2.2.2.2.1
  by_cases h1 : X.testBit (a * pcn s + i) = true
  · by_cases h2 : X.testBit (b * pcn s + i) = true
    · have hm : mT S s X a b i = false := by
        rw [← Bool.not_eq_true, mT_iff]
        intro q
        rw [h2] at q
        cases q.2.1
      rw [hm]
      simp (disch := omega) only [s_143_0, s_143_1, s_143_4, s_143_6, s_143_7, s_143_9, s_143_10, s_143_11, s_143_14, s_143_15, s_143_16, s_143_18, s_143_19, s_143_22, s_143_25, s_143_26, s_143_27, s_143_30, s_143_31, s_143_32, s_143_34, s_143_35, s_143_38, s_143_41, s_143_42, s_143_45, s_143_46, s_143_47, s_143_48, s_143_51, s_143_54, s_143_55_0, s_143_55_1, sb_143_55, ↓reduceIte, i_in, i_cl, true_and, e63, h17, i_mul, ma, mb, i_add, c_X7_has, h1, h2, ap_some, bI_0, Bool.true_eq_false]
      rfl
    · rw [Bool.not_eq_true] at h2
      by_cases h3 : (S 3 b).testBit a = true
      · have lp := loopN (fun j => Go (d + 1) 143 66 [some (.ref 53), some (.int (nI X)), some (.int (nI a)), some (.int (nI b)), some (.int (nI i)), some (.int (nI (thg s i))), some (.int (nI (kx S s X b j))), some (.int (nI j))] [] (HP lx xs M) Q) (pcn s) fun j hj => by
          show Go (d + 1) _ 66 _ _ _ _ = Go (d + 1) _ 66 _ _ _ _
          have pj := pos_lt hb' hj
          have ej := h63 j hj
          have qj := (t2 j hj).1
          rw [s_143_66, kx]
          by_cases hh : X.testBit (b * pcn s + j) = true
          · rw [if_pos hh]
            simp (disch := omega) only [s_143_68, s_143_69, s_143_72, s_143_75, s_143_76, s_143_77, s_143_80, s_143_81, s_143_82, s_143_84, s_143_85, s_143_88, s_143_91, s_143_93, s_143_94, s_143_95, s_143_98, s_143_100, s_143_101, s_143_102, s_143_103, s_143_106, s_143_108, s_143_110, s_143_113, ↓reduceIte, h17, i_lt, hj, i_mul, mb, i_add, c_X7_has, hh, ap_some, bI_0, Bool.true_eq_false, i_in, i_cl, true_and, ej, i_1s, i_or]
          · rw [if_neg hh]
            rw [Bool.not_eq_true] at hh
            simp (disch := omega) only [s_143_68, s_143_69, s_143_72, s_143_75, s_143_76, s_143_77, s_143_80, s_143_81, s_143_82, s_143_84, s_143_85, s_143_88, s_143_91, s_143_93, s_143_94, s_143_95, s_143_98, s_143_100, s_143_101, s_143_102, s_143_103, s_143_106, s_143_108, s_143_110, s_143_113, ↓reduceIte, h17, i_lt, hj, i_mul, mb, i_add, c_X7_has, hh, ap_some, bI_0]
        try dsimp only at lp
        simp (disch := omega) only [s_143_0, s_143_1, s_143_4, s_143_6, s_143_7, s_143_9, s_143_10, s_143_11, s_143_14, s_143_15, s_143_16, s_143_18, s_143_19, s_143_22, s_143_25, s_143_26, s_143_27, s_143_30, s_143_31, s_143_32, s_143_34, s_143_35, s_143_38, s_143_41, s_143_42, s_143_45, s_143_46, s_143_47, s_143_48, s_143_51, s_143_54, s_143_55_0, s_143_55_1, sb_143_55, s_143_56, s_143_57, s_143_58, s_143_61, s_143_63, s_143_64, ↓reduceIte, i_in, i_cl, true_and, e63, h17, i_mul, ma, mb, i_add, c_X7_has, h1, h2, ap_some, bI_0, Bool.true_eq_false, e55, h3, kt]
        refine Eq.trans lp ?_
        rw [s_143_66]
        have wl := wo_le (S 4 (thg s i)) (kx S s X b (pcn s))
        have zz := kx_nd (i := i) hW hs hb' hst hX hi
        by_cases hn : ndP S s X b i
        · have hm : mT S s X a b i = true := mT_iff.mpr ⟨h1, h2, h3, hn⟩
          have z : (wo (S 4 (thg s i)) (kx S s X b (pcn s)) = 0) = True := eq_true (zz.mpr hn)
          rw [hm]
          simp (disch := omega) only [s_143_68, s_143_69, s_143_72, s_143_116, s_143_117, s_143_120, s_143_122, s_143_123, s_143_125, s_143_126, s_143_127, s_143_128, s_143_131, s_143_132, s_143_135, s_143_136_0, s_143_136_1, sb_143_136, ↓reduceIte, h17, i_lt, Nat.lt_irrefl, i_in, i_cl, true_and, e57, i_wo, i_e0, z]
          rfl
        · have hm : mT S s X a b i = false := by
            rw [← Bool.not_eq_true, mT_iff]
            exact fun q => hn q.2.2.2
          have z : (wo (S 4 (thg s i)) (kx S s X b (pcn s)) = 0) = False := eq_false fun q => hn (zz.mp q)
          rw [hm]
          simp (disch := omega) only [s_143_68, s_143_69, s_143_72, s_143_116, s_143_117, s_143_120, s_143_122, s_143_123, s_143_125, s_143_126, s_143_127, s_143_128, s_143_131, s_143_132, s_143_135, s_143_136_0, s_143_136_1, sb_143_136, ↓reduceIte, h17, i_lt, Nat.lt_irrefl, i_in, i_cl, true_and, e57, i_wo, i_e0, z]
          rfl
      · have hm : mT S s X a b i = false := by
          rw [← Bool.not_eq_true, mT_iff]
          exact fun q => h3 q.2.2.1
        rw [Bool.not_eq_true] at h3
        rw [hm]
        simp (disch := omega) only [s_143_0, s_143_1, s_143_4, s_143_6, s_143_7, s_143_9, s_143_10, s_143_11, s_143_14, s_143_15, s_143_16, s_143_18, s_143_19, s_143_22, s_143_25, s_143_26, s_143_27, s_143_30, s_143_31, s_143_32, s_143_34, s_143_35, s_143_38, s_143_41, s_143_42, s_143_45, s_143_46, s_143_47, s_143_48, s_143_51, s_143_54, s_143_55_0, s_143_55_1, sb_143_55, ↓reduceIte, i_in, i_cl, true_and, e63, h17, i_mul, ma, mb, i_add, c_X7_has, h1, h2, ap_some, bI_0, Bool.true_eq_false, e55, h3]
        rfl
  · have hm : mT S s X a b i = false := by
      rw [← Bool.not_eq_true, mT_iff]
      exact fun q => h1 q.1
    rw [Bool.not_eq_true] at h1
    rw [hm]
    simp (disch := omega) only [s_143_0, s_143_1, s_143_4, s_143_6, s_143_7, s_143_9, s_143_10, s_143_11, s_143_14, s_143_15, s_143_16, s_143_18, s_143_19, s_143_22, s_143_25, s_143_26, s_143_27, s_143_30, s_143_31, s_143_32, s_143_34, s_143_35, s_143_38, s_143_41, s_143_42, s_143_45, s_143_46, s_143_47, s_143_48, s_143_51, s_143_54, s_143_55_0, s_143_55_1, sb_143_55, ↓reduceIte, i_in, i_cl, true_and, e63, h17, i_mul, ma, i_add, c_X7_has, h1, ap_some, bI_0]
    rfl
end MA
