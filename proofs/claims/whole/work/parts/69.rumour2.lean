/-! the determinants, and who reaches all: how the class works them out -/
theorem nI_oi (n : Nat) : nI n = Int32.ofInt (n : Int) := Int32.ofInt_eq_ofNat.symm
def rlL (R : Nat) : Nat → List Nat
  | 0 => []
  | j + 1 => if R.testBit (5 - j) then (5 - j) :: rlL R j else rlL R j
theorem rlL_K : ∀ K, K < 64 → ∀ r, r < 6 → rlL (wo K (2 ^ r)) 6 = rlK K r := by decide +kernel
theorem wo_64 {a b : Nat} (h : a < 64) : wo a b < 64 := Nat.lt_of_le_of_lt (wo_le a b) h
theorem pcn_64 : ∀ x, x < 64 → pcn x ≤ 6 := by decide +kernel
section MI
variable {d : Nat} {Q : Option Value → ex_H → Prop} {lx : Nat} {xs : Nat → Int32} {M : Nat → Nat → Int32} {src : Nat → Nat} {K R c j n r cols ch : Nat} {o3 o4 o5 o6 : Option Value} {X Y : Int32}
/-- one column -/
theorem l_X2_minor (h64 : ∀ c, src c < 64) (h43 : ∀ c, c < 6 → M 43 c = nI (src c)) (hch : ch < 6) (hcols : cols < 64) (hc : c < 6) {m : Int32} (hm : ∀ d Q, Go (d + n + 3) 108 0 [some (.ref 42), some (.int (nI (ch + 1))), some (.int (nI (wo cols (2 ^ c)))), none, none, none, none] [] (HP lx xs M) Q = Q (some (.int m)) (HP lx xs M)) : ∃ o6', Go (d + (n + 1) + 3) 108 36 [some (.ref 42), some (.int (nI ch)), some (.int (nI cols)), some (.int X), some (.int Y), some (.int (nI c)), o6] [] (HP lx xs M) Q = Go (d + (n + 1) + 3) 108 36 [some (.ref 42), some (.int (nI ch)), some (.int (nI cols)), some (.int (if cols.testBit c then X + Y * Int32.ofInt (ent src ch c) * m else X)), some (.int (if cols.testBit c then -Y else Y)), some (.int (nI (c + 1))), o6'] [] (HP lx xs M) Q := by
  have e43 := h43 ch hch
  have hs := h64 ch
  have hp := pcn_64 (src ch) hs
  have hm2 := hm d
  rw [show d + n + 3 = d + (n + 1) + 2 by omega] at hm2
  rw [show d + (n + 1) + 3 = d + (n + 1) + 2 + 1 by omega]
  have hd : ∀ Q, Go (d + (n + 1) + 2) 108 0 [some (.ref 42), some (.int (nI (ch + 1))), some (.int (nI (wo cols (2 ^ c)))), none, none, none, none] [] (HP lx xs M) Q = Q (some (.int m)) (HP lx xs M) := hm2
  by_cases hb : cols.testBit c = true
  · rw [if_pos hb, if_pos hb]
    by_cases hcc : c = ch
    · subst hcc
      have ee : ent src c c = (pcn (src c) : Int) := if_pos rfl
      rw [ee, ← nI_oi]
      by_cases h0 : pcn (src c) = 0
      · refine ⟨some (.int (nI (pcn (src c)))), ?_⟩
        have z : X + Y * nI (pcn (src c)) * m = X := by rw [h0, show nI 0 = (0 : Int32) from rfl, Int32.mul_zero, Int32.zero_mul, Int32.add_zero]
        rw [z, s_108_36]
        simp (disch := omega) only [s_108_38, s_108_40, s_108_43, s_108_44, s_108_46, s_108_49, s_108_52, s_108_55, s_108_57, s_108_58, s_108_61, s_108_62, s_108_65, s_108_66, s_108_67, s_108_70, s_108_73, s_108_74, s_108_77, s_108_78, s_108_79, s_108_81, s_108_84, s_108_87, s_108_88, s_108_91, s_108_92, s_108_94, s_108_96, s_108_99, s_108_100, s_108_102, s_108_104, s_108_105, s_108_106, s_108_107, s_108_108, s_108_109, s_108_110, s_108_111, s_108_113, s_108_114, s_108_115, s_108_116, s_108_117, s_108_120, s_108_121, s_108_122, s_108_123, s_108_125, s_108_126, s_108_128, s_108_131, ↓reduceIte, i_lt, hc, c_X6_has, hb, ap_some, bI_0, Bool.true_eq_false, i_in, i_cl, true_and, e43, c_bitCount, i_e0, h0, i_add]
      · refine ⟨some (.int (nI (pcn (src c)))), ?_⟩
        rw [s_108_36]
        simp (disch := omega) only [s_108_38, s_108_40, s_108_43, s_108_44, s_108_46, s_108_49, s_108_52, s_108_55, s_108_57, s_108_58, s_108_61, s_108_62, s_108_65, s_108_66, s_108_67, s_108_70, s_108_73, s_108_74, s_108_77, s_108_78, s_108_79, s_108_81, s_108_84, s_108_87, s_108_88, s_108_91, s_108_92, s_108_94, s_108_96, s_108_99, s_108_100, s_108_102, s_108_104, s_108_105, s_108_106, s_108_107, s_108_108, s_108_109, s_108_110, s_108_111, s_108_113, s_108_114, s_108_115, s_108_116, s_108_117, s_108_120, s_108_121, s_108_122, s_108_123, s_108_125, s_108_126, s_108_128, s_108_131, ↓reduceIte, i_lt, hc, c_X6_has, hb, ap_some, bI_0, Bool.true_eq_false, i_in, i_cl, true_and, e43, c_bitCount, i_e0, h0, i_add, i_1s, i_wo, hd]
    · have hcc2 : (nI c = nI ch) = False := by rw [i_eq (by omega) (by omega)]; exact eq_false hcc
      by_cases hb2 : (src ch).testBit c = true
      · have ee : ent src ch c = -1 := by unfold ent; rw [if_neg hcc, if_pos hb2]
        rw [ee, show Int32.ofInt (-1) = -1 from rfl]
        refine ⟨some (.int (-1)), ?_⟩
        have z1 : ((-1 : Int32) = 0) = False := by decide
        rw [s_108_36]
        simp (disch := omega) only [s_108_38, s_108_40, s_108_43, s_108_44, s_108_46, s_108_49, s_108_52, s_108_55, s_108_57, s_108_58, s_108_61, s_108_62, s_108_65, s_108_66, s_108_67, s_108_70, s_108_73, s_108_74, s_108_77, s_108_78, s_108_79, s_108_81, s_108_84, s_108_87, s_108_88, s_108_91, s_108_92, s_108_94, s_108_96, s_108_99, s_108_100, s_108_102, s_108_104, s_108_105, s_108_106, s_108_107, s_108_108, s_108_109, s_108_110, s_108_111, s_108_113, s_108_114, s_108_115, s_108_116, s_108_117, s_108_120, s_108_121, s_108_122, s_108_123, s_108_125, s_108_126, s_108_128, s_108_131, ↓reduceIte, i_lt, hc, c_X6_has, hb, ap_some, bI_0, Bool.true_eq_false, i_in, i_cl, true_and, e43, hcc2, hb2, z1, i_add, i_1s, i_wo, hd]
      · have ee : ent src ch c = 0 := by unfold ent; rw [if_neg hcc, if_neg hb2]
        rw [Bool.not_eq_true] at hb2
        rw [ee, show Int32.ofInt 0 = 0 from rfl, Int32.mul_zero, Int32.zero_mul, Int32.add_zero]
        refine ⟨some (.int (nI 0)), ?_⟩
        rw [s_108_36]
        simp (disch := omega) only [s_108_38, s_108_40, s_108_43, s_108_44, s_108_46, s_108_49, s_108_52, s_108_55, s_108_57, s_108_58, s_108_61, s_108_62, s_108_65, s_108_66, s_108_67, s_108_70, s_108_73, s_108_74, s_108_77, s_108_78, s_108_79, s_108_81, s_108_84, s_108_87, s_108_88, s_108_91, s_108_92, s_108_94, s_108_96, s_108_99, s_108_100, s_108_102, s_108_104, s_108_105, s_108_106, s_108_107, s_108_108, s_108_109, s_108_110, s_108_111, s_108_113, s_108_114, s_108_115, s_108_116, s_108_117, s_108_120, s_108_121, s_108_122, s_108_123, s_108_125, s_108_126, s_108_128, s_108_131, ↓reduceIte, i_lt, hc, c_X6_has, hb, ap_some, bI_0, Bool.true_eq_false, i_in, i_cl, true_and, e43, hcc2, hb2, n0_0, i_add]
  · rw [if_neg hb, if_neg hb]
    rw [Bool.not_eq_true] at hb
    refine ⟨o6, ?_⟩
    rw [s_108_36]
    simp (disch := omega) only [s_108_38, s_108_40, s_108_43, s_108_44, s_108_46, s_108_49, s_108_52, s_108_128, s_108_131, ↓reduceIte, i_lt, hc, c_X6_has, hb, ap_some, bI_0, i_add]
theorem c_X2_minor (h64 : ∀ c, src c < 64) (h43 : ∀ c, c < 6 → M 43 c = nI (src c)) (hR : R < 64) (h3 : M 42 3 = nI R) : ∀ n, n ≤ 6 → ∀ cols, cols < 64 → ∀ d Q, Go (d + n + 3) 108 0 [some (.ref 42), some (.int (nI (6 - n))), some (.int (nI cols)), none, none, none, none] [] (HP lx xs M) Q = Q (some (.int (Int32.ofInt (MN src (rlL R n) cols)))) (HP lx xs M) := by
  intro n
  induction n with
  | zero =>
    intro _ cols hcols d Q
    rw [rlL, MN]
    simp (disch := omega) only [s_108_0, s_108_1, s_108_3, s_108_6, s_108_7, ↓reduceIte, i_lt, Nat.sub_zero, Nat.lt_irrefl]
    rfl
  | succ n ih =>
    intro hn cols hcols d Q
    have ih2 := ih (by omega)
    have e1 : 6 - (n + 1) = 5 - n := by omega
    have e2 : 6 - n = 5 - n + 1 := by omega
    rw [e2] at ih2
    rw [e1, rlL]
    have hch : 5 - n < 6 := by omega
    generalize hg : 5 - n = ch at *
    by_cases hb : R.testBit ch = true
    · rw [if_pos hb, MN]
      have lp : ∀ m c, c + m = 6 → ∀ o6, ∃ o6', Go (d + (n + 1) + 3) 108 36 [some (.ref 42), some (.int (nI ch)), some (.int (nI cols)), some (.int (Int32.ofInt (sN (fun j => cf cols j * ent src ch j * MN src (rlL R n) (wo cols (2 ^ j))) c))), some (.int (Int32.ofInt (sgr cols c))), some (.int (nI c)), o6] [] (HP lx xs M) Q = Go (d + (n + 1) + 3) 108 36 [some (.ref 42), some (.int (nI ch)), some (.int (nI cols)), some (.int (Int32.ofInt (sN (fun j => cf cols j * ent src ch j * MN src (rlL R n) (wo cols (2 ^ j))) 6))), some (.int (Int32.ofInt (sgr cols 6))), some (.int (nI 6)), o6'] [] (HP lx xs M) Q := by
        intro m
        induction m with
        | zero => intro c hc o6; rw [show c = 6 by omega]; exact ⟨o6, rfl⟩
        | succ m ihm =>
          intro c hc o6
          obtain ⟨o1, h1⟩ := l_X2_minor (d := d) (Q := Q) (lx := lx) (xs := xs) (n := n) (o6 := o6) (X := Int32.ofInt (sN (fun j => cf cols j * ent src ch j * MN src (rlL R n) (wo cols (2 ^ j))) c)) (Y := Int32.ofInt (sgr cols c)) (c := c) h64 h43 hch hcols (by omega) (ih2 (wo cols (2 ^ c)) (wo_64 hcols))
          obtain ⟨o2, h2⟩ := ihm (c + 1) (by omega) o1
          refine ⟨o2, ?_⟩
          rw [h1, ← h2]
          have s1 : (if cols.testBit c then Int32.ofInt (sN (fun j => cf cols j * ent src ch j * MN src (rlL R n) (wo cols (2 ^ j))) c) + Int32.ofInt (sgr cols c) * Int32.ofInt (ent src ch c) * Int32.ofInt (MN src (rlL R n) (wo cols (2 ^ c))) else Int32.ofInt (sN (fun j => cf cols j * ent src ch j * MN src (rlL R n) (wo cols (2 ^ j))) c)) = Int32.ofInt (sN (fun j => cf cols j * ent src ch j * MN src (rlL R n) (wo cols (2 ^ j))) (c + 1)) := by
            rw [sN]
            by_cases b : cols.testBit c = true
            · rw [if_pos b, Int32.ofInt_add, Int32.ofInt_mul, Int32.ofInt_mul]
              rw [show cf cols c = sgr cols c from if_pos b]
            · rw [if_neg b, show cf cols c = 0 from if_neg b, Int.zero_mul, Int.zero_mul, Int.add_zero]
          have s2 : (if cols.testBit c then -Int32.ofInt (sgr cols c) else Int32.ofInt (sgr cols c)) = Int32.ofInt (sgr cols (c + 1)) := by
            rw [sgr]
            by_cases b : cols.testBit c = true
            · rw [if_pos b, if_pos b, Int32.ofInt_neg]
            · rw [if_neg b, if_neg b]
          rw [s1, s2]
      obtain ⟨o6', h6⟩ := lp 6 0 (by omega) none
      have st : Go (d + (n + 1) + 3) 108 0 [some (.ref 42), some (.int (nI ch)), some (.int (nI cols)), none, none, none, none] [] (HP lx xs M) Q = Go (d + (n + 1) + 3) 108 36 [some (.ref 42), some (.int (nI ch)), some (.int (nI cols)), some (.int (nI 0)), some (.int (nI 1)), some (.int (nI 0)), none] [] (HP lx xs M) Q := by
        rw [show d + (n + 1) + 3 = d + (n + 1) + 2 + 1 by omega]
        simp (disch := omega) only [s_108_0, s_108_1, s_108_3, s_108_6, s_108_7, s_108_8, s_108_9, s_108_12, s_108_13, s_108_16, s_108_19, s_108_20, s_108_21, s_108_22, s_108_23, s_108_24, s_108_27, s_108_28, s_108_29, s_108_30, s_108_31, s_108_33, s_108_34, ↓reduceIte, i_lt, hch, h3, c_X6_has, hb, ap_some, bI_0, Bool.true_eq_false]
      rw [st]
      refine Eq.trans h6 ?_
      rw [s_108_36]
      simp (disch := omega) only [s_108_38, s_108_40, s_108_134, s_108_135, ↓reduceIte, i_lt, Nat.lt_irrefl]
    · rw [if_neg hb]
      rw [Bool.not_eq_true] at hb
      have ih3 := ih2 cols hcols d
      rw [show d + n + 3 = d + (n + 1) + 2 by omega] at ih3
      rw [show d + (n + 1) + 3 = d + (n + 1) + 2 + 1 by omega]
      simp (disch := omega) only [s_108_0, s_108_1, s_108_3, s_108_6, s_108_7, s_108_8, s_108_9, s_108_12, s_108_13, s_108_16, s_108_19, s_108_20, s_108_21, s_108_22, s_108_23, s_108_24, s_108_27, ↓reduceIte, i_lt, hch, h3, c_X6_has, hb, ap_some, bI_0, i_add, ih3]
theorem c_X2_countWays (h64 : ∀ c, src c < 64) (hK : K < 64) (hU : RU M K R src) : ∃ M1, (∀ c, c ≠ 42 → M1 c = M c) ∧ ∀ d Q, Go (d + 10) 107 0 [some (.ref 42), none, none] [] (HP lx xs M) Q = Q (some (.int (Int32.ofInt (sN (fun r => if K.testBit r then MN src (rlK K r) (wo K (2 ^ r)) else 0) 6)))) (HP lx xs M1) := by
  have lp : ∀ m r M, r + m = 6 → RU M K R src → ∃ M1, (∀ c, c ≠ 42 → M1 c = M c) ∧ ∀ d Q, Go (d + 10) 107 4 [some (.ref 42), some (.int (Int32.ofInt (sN (fun r => if K.testBit r then MN src (rlK K r) (wo K (2 ^ r)) else 0) r))), some (.int (nI r))] [] (HP lx xs M) Q = Q (some (.int (Int32.ofInt (sN (fun r => if K.testBit r then MN src (rlK K r) (wo K (2 ^ r)) else 0) 6)))) (HP lx xs M1) := by
    intro m
    induction m with
    | zero =>
      intro r M hr hU
      have e : r = 6 := by omega
      subst e
      refine ⟨M, fun _ _ => rfl, fun d Q => ?_⟩
      rw [s_107_4]
      simp (disch := omega) only [s_107_5, s_107_7, s_107_56, s_107_57, ↓reduceIte, i_lt, Nat.lt_irrefl]
    | succ m ih =>
      intro r M hr hU
      obtain ⟨u1, u2, u3⟩ := hU
      have hr6 : r < 6 := by omega
      by_cases hb : K.testBit r = true
      · obtain ⟨M1, r1, r2⟩ := ih (r + 1) (up M 42 3 (nI (wo K (2 ^ r)))) (by omega) ⟨by rw [up_off (by decide)]; exact u1, by rw [up_off (by decide)]; exact u2, fun c hc => by rw [up_ne _ _ _ (by decide)]; exact u3 c hc⟩
        refine ⟨M1, fun c hc => (r1 c hc).trans (up_ne _ _ _ hc), fun d Q => ?_⟩
        have mn := fun d Q => c_X2_minor (lx := lx) (xs := xs) (M := up M 42 3 (nI (wo K (2 ^ r)))) (src := src) (R := wo K (2 ^ r)) h64 (fun c hc => by rw [up_ne _ _ _ (by decide)]; exact u3 c hc) (wo_64 hK) up_at 6 (by omega) (wo K (2 ^ r)) (wo_64 hK) d Q
        rw [rlL_K K hK r hr6] at mn
        simp only [Nat.sub_self] at mn
        have r3 := r2 d Q
        rw [sN, if_pos hb, Int32.ofInt_add] at r3
        rw [s_107_4]
        simp (disch := omega) only [s_107_5, s_107_7, s_107_10, s_107_11, s_107_14, s_107_15, s_107_18, s_107_21, s_107_24, s_107_25, s_107_26, s_107_29, s_107_30, s_107_31, s_107_32, s_107_33, s_107_34, s_107_35, s_107_38, s_107_39, s_107_40, s_107_41, s_107_42, s_107_45, s_107_48, s_107_49, s_107_50, s_107_53, ↓reduceIte, i_lt, hr6, u1, c_X6_has, hb, ap_some, bI_0, Bool.true_eq_false, i_1s, i_wo, up_at, mn, i_add]
        exact r3
      · obtain ⟨M1, r1, r2⟩ := ih (r + 1) M (by omega) ⟨u1, u2, u3⟩
        refine ⟨M1, r1, fun d Q => ?_⟩
        have r3 := r2 d Q
        rw [sN, if_neg hb, Int.add_zero] at r3
        rw [Bool.not_eq_true] at hb
        rw [s_107_4]
        simp (disch := omega) only [s_107_5, s_107_7, s_107_10, s_107_11, s_107_14, s_107_15, s_107_18, s_107_21, s_107_50, s_107_53, ↓reduceIte, i_lt, hr6, u1, c_X6_has, hb, ap_some, bI_0, i_add]
        exact r3
  obtain ⟨M1, r1, r2⟩ := lp 6 0 M (by omega) hU
  refine ⟨M1, r1, fun d Q => ?_⟩
  simp only [s_107_0, s_107_1, s_107_2, s_107_3]
  exact r2 d Q
theorem stp_lt {X c : Nat} (hX : X < 64) (hc : c < 6) : stp src c X < 64 := by
  unfold stp
  split
  · exact hX
  · exact or_lt (n := 6) hX hc
theorem r1_lt {X : Nat} (hX : X < 64) : ∀ j, j ≤ 6 → r1 src j X < 64 := by
  intro j
  induction j with
  | zero => intro _; exact hX
  | succ j ih => intro h; exact stp_lt (ih (by omega)) (by omega)
theorem rrn_lt {X : Nat} (hX : X < 64) : ∀ j, rrn src j X < 64 := by
  intro j
  induction j with
  | zero => exact hX
  | succ j ih => exact r1_lt ih 6 (by omega)
theorem c_X2_reachesAll (hU : RU M K R src) (h64 : ∀ c, src c < 64) (hK : K < 64) (hr : r < 6) : Go d 110 0 [some (.ref 42), some (.int (nI r)), none, none, none] [] (HP lx xs M) Q = Q (some (.int (bI (decide (rrn src 5 (2 ^ r) = K))))) (HP lx xs M) := by
  obtain ⟨u1, u2, u3⟩ := hU
  have inner : ∀ X k o, X < 64 → Go d 110 15 [some (.ref 42), o, some (.int (nI X)), some (.int (nI k)), some (.int (nI 0))] [] (HP lx xs M) Q = Go d 110 15 [some (.ref 42), o, some (.int (nI (r1 src 6 X))), some (.int (nI k)), some (.int (nI 6))] [] (HP lx xs M) Q := by
    intro X k o hX
    have lp := loopN (fun c => Go d 110 15 [some (.ref 42), o, some (.int (nI (r1 src c X))), some (.int (nI k)), some (.int (nI c))] [] (HP lx xs M) Q) 6 fun c hc => by
      show Go d _ 15 _ _ _ _ = Go d _ 15 _ _ _ _
      have hl := r1_lt (src := src) hX c (by omega)
      have e := u3 c hc
      have ha : src c &&& r1 src c X < 2147483648 := Nat.lt_of_le_of_lt Nat.and_le_left (by have := h64 c; omega)
      rw [s_110_15, r1]
      unfold stp
      by_cases hz : src c &&& r1 src c X = 0
      · rw [if_pos hz]
        simp (disch := first | omega | assumption) only [s_110_17, s_110_19, s_110_22, s_110_23, s_110_26, s_110_28, s_110_29, s_110_30, s_110_31, s_110_34, s_110_35, s_110_36, s_110_38, s_110_39, s_110_40, s_110_41, s_110_44, ↓reduceIte, i_lt, hc, i_in, i_cl, true_and, e, i_and, i_e0, hz, i_add]
      · rw [if_neg hz]
        simp (disch := first | omega | assumption) only [s_110_17, s_110_19, s_110_22, s_110_23, s_110_26, s_110_28, s_110_29, s_110_30, s_110_31, s_110_34, s_110_35, s_110_36, s_110_38, s_110_39, s_110_40, s_110_41, s_110_44, ↓reduceIte, i_lt, hc, i_in, i_cl, true_and, e, i_and, i_e0, hz, i_add, i_1s, i_or]
    exact lp
  have h2 : 2 ^ r < 64 := Nat.pow_lt_pow_right (by decide) hr
  have outer : ∀ m k, k + m = 5 → ∀ o4, ∃ o4', Go d 110 6 [some (.ref 42), some (.int (nI r)), some (.int (nI (rrn src k (2 ^ r)))), some (.int (nI (k + 1))), o4] [] (HP lx xs M) Q = Go d 110 6 [some (.ref 42), some (.int (nI r)), some (.int (nI (rrn src 5 (2 ^ r)))), some (.int (nI 6)), o4'] [] (HP lx xs M) Q := by
    intro m
    induction m with
    | zero => intro k hk o4; rw [show k = 5 by omega]; exact ⟨o4, rfl⟩
    | succ m ih =>
      intro k hk o4
      obtain ⟨o, h⟩ := ih (k + 1) (by omega) (some (.int (nI 6)))
      refine ⟨o, ?_⟩
      rw [← h, rrn]
      have hk6 : k + 1 < 6 := by omega
      rw [s_110_6]
      simp (disch := omega) only [s_110_7, s_110_9, s_110_12, s_110_13, ↓reduceIte, i_lt, hk6]
      rw [inner _ _ _ (rrn_lt h2 k), s_110_15]
      simp (disch := omega) only [s_110_17, s_110_19, s_110_47, s_110_50, ↓reduceIte, i_lt, Nat.lt_irrefl, i_add]
  obtain ⟨o, h⟩ := outer 5 0 (by omega) none
  have hl := rrn_lt (src := src) h2 5
  have st : Go d 110 0 [some (.ref 42), some (.int (nI r)), none, none, none] [] (HP lx xs M) Q = Go d 110 6 [some (.ref 42), some (.int (nI r)), some (.int (nI (rrn src 0 (2 ^ r)))), some (.int (nI (0 + 1))), none] [] (HP lx xs M) Q := by
    simp (disch := omega) only [s_110_0, s_110_1, s_110_2, s_110_3, s_110_4, s_110_5, i_1s, rrn, Nat.zero_add]
  rw [st, h, s_110_6]
  simp (disch := omega) only [s_110_7, s_110_9, s_110_53, s_110_54, s_110_55, s_110_58, s_110_61, s_110_62, s_110_65, s_110_66_0, s_110_66_1, sb_110_66, ↓reduceIte, i_lt, Nat.lt_irrefl, u1, i_eq]
  by_cases e : rrn src 5 (2 ^ r) = K
  · simp only [e, ↓reduceIte, decide_true]; rfl
  · simp only [e, ↓reduceIte, decide_false]; rfl
def fmf (src : Nat → Nat) (K R c : Nat) : Bool := R.testBit c && decide (rrn src 5 (2 ^ c) = K)
theorem c_X2_firstMouths (hU : RU M K R src) (h64 : ∀ c, src c < 64) (hK : K < 64) (hR : R < 64) : Go (d + 1) 109 0 [some (.ref 42), none, none] [] (HP lx xs M) Q = Q (some (.int (nI (mskn (fmf src K R) 6)))) (HP lx xs M) := by
  have u2 := hU.2.1
  have lp := loopN (fun c => Go (d + 1) 109 4 [some (.ref 42), some (.int (nI (mskn (fmf src K R) c))), some (.int (nI c))] [] (HP lx xs M) Q) 6 fun c hc => by
    show Go (d + 1) _ 4 _ _ _ _ = Go (d + 1) _ 4 _ _ _ _
    have hm := mskn_lt (fmf src K R) c
    have hm2 : 2 ^ c ≤ 2 ^ 6 := Nat.pow_le_pow_right (by decide) (by omega)
    have ra := fun d Q => c_X2_reachesAll (d := d) (Q := Q) (lx := lx) (xs := xs) hU h64 hK hc
    rw [s_109_4, mskn]
    by_cases h1 : R.testBit c = true
    · by_cases h2 : rrn src 5 (2 ^ c) = K
      · rw [decide_eq_true h2] at ra
        rw [if_pos (by unfold fmf; rw [h1, decide_eq_true h2]; rfl)]
        simp (disch := omega) only [s_109_5, s_109_7, s_109_10, s_109_11, s_109_14, s_109_15, s_109_18, s_109_21, s_109_22, s_109_23, s_109_26, s_109_29, s_109_30, s_109_31, s_109_32, s_109_33, s_109_34, s_109_35, s_109_38, ↓reduceIte, i_lt, hc, u2, c_X6_has, h1, ap_some, bI_0, Bool.true_eq_false, ra, i_1s, i_or, i_add]
      · rw [decide_eq_false h2] at ra
        rw [if_neg (by unfold fmf; rw [decide_eq_false h2]; simp), Nat.or_zero]
        simp (disch := omega) only [s_109_5, s_109_7, s_109_10, s_109_11, s_109_14, s_109_15, s_109_18, s_109_21, s_109_22, s_109_23, s_109_26, s_109_29, s_109_30, s_109_31, s_109_32, s_109_33, s_109_34, s_109_35, s_109_38, ↓reduceIte, i_lt, hc, u2, c_X6_has, h1, ap_some, bI_0, Bool.true_eq_false, ra, i_add]
    · rw [Bool.not_eq_true] at h1
      rw [if_neg (by unfold fmf; rw [h1]; simp), Nat.or_zero]
      simp (disch := omega) only [s_109_5, s_109_7, s_109_10, s_109_11, s_109_14, s_109_15, s_109_18, s_109_21, s_109_22, s_109_23, s_109_26, s_109_29, s_109_30, s_109_31, s_109_32, s_109_33, s_109_34, s_109_35, s_109_38, ↓reduceIte, i_lt, hc, u2, c_X6_has, h1, ap_some, bI_0, i_add]
  try dsimp only at lp
  simp only [s_109_0, s_109_1, s_109_2, s_109_3]
  refine Eq.trans lp ?_
  rw [s_109_4]
  simp (disch := omega) only [s_109_5, s_109_7, s_109_41, s_109_42, ↓reduceIte, i_lt, Nat.lt_irrefl]
end MI
