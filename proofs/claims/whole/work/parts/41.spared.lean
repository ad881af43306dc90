/-! spared: the plan without a child -/
theorem or_rc (a b c : Nat) : (a ||| b) ||| c = (a ||| c) ||| b := by rw [Nat.or_assoc, Nat.or_comm b c, ← Nat.or_assoc]
def gw (ab : Nat) : Nat → Nat → Nat → (Nat → Nat → Nat) → (Nat → Nat → Nat)
  | 0, _, _, S => S
  | m + 1, i, bz, S => if ((if opn S i = true then 0 else bz) ||| ab) &&& (2 ^ S 6 i ||| 2 ^ S 7 i) = 0 ∧ al S (S 6 i) (S 7 i) (S 8 i) = true then gw ab m (i + 1) ((if opn S i = true then 0 else bz) ||| (2 ^ S 6 i ||| 2 ^ S 7 i)) (upS S 2 (S 7 i * 4 + S 8 i) 0) else gw ab m (i + 1) (if opn S i = true then 0 else bz) S
theorem gw_row (ab : Nat) {r : Nat} (hr : r ≠ 2) : ∀ m i bz S, gw ab m i bz S r = S r := by
  intro m
  induction m with
  | zero => intro i bz S; rfl
  | succ m ih =>
    intro i bz S
    unfold gw
    generalize (if opn S i = true then 0 else bz) = g
    split
    · rw [ih, upS_row hr]
    · rw [ih]
theorem gw_WF (ab : Nat) : ∀ m i bz S, WF S → WF (gw ab m i bz S) := by
  intro m
  induction m with
  | zero => intro i bz S h; exact h
  | succ m ih =>
    intro i bz S h
    unfold gw
    generalize (if opn S i = true then 0 else bz) = g
    split
    · exact ih _ _ _ (WF_say (k := 0) h (by decide) _)
    · exact ih _ _ _ h
theorem RepC_eq {M M1 : Nat → Nat → Int32} {o : Nat} {S : Nat → Nat → Nat} (hC : RepC M o S) (h : ∀ c, o ≤ c → c ≤ o + 8 → M1 c = M c) : RepC M1 o S := by
  unfold RepC at hC ⊢
  rw [h o (by omega) (by omega), h (o + 1) (by omega) (by omega), h (o + 2) (by omega) (by omega), h (o + 3) (by omega) (by omega), h (o + 4) (by omega) (by omega), h (o + 5) (by omega) (by omega), h (o + 6) (by omega) (by omega), h (o + 7) (by omega) (by omega), h (o + 8) (by omega) (by omega)]
  exact hC
theorem RepM_eq {M M1 : Nat → Nat → Int32} {S : Nat → Nat → Nat} (hC : RepM M S) (h3 : ∀ j, 4 ≤ j → j ≤ 8 → M1 53 j = M 53 j) (h : ∀ c, 54 ≤ c → c ≤ 58 → M1 c = M c) : RepM M1 S := by
  unfold RepM at hC ⊢
  rw [h 54 (by omega) (by omega), h 55 (by omega) (by omega), h 56 (by omega) (by omega), h 57 (by omega) (by omega), h 58 (by omega) (by omega), h3 4 (by omega) (by omega), h3 6 (by omega) (by omega), h3 7 (by omega) (by omega), h3 8 (by omega) (by omega)]
  exact hC
theorem RepM_says {M M1 : Nat → Nat → Int32} {S S1 : Nat → Nat → Nat} (hC : RepM M S) (hr : ∀ r, r ≠ 2 → S1 r = S r) (hs : ∀ i, i < 24 → M1 56 i = nI (S1 2 i)) (h : ∀ c, c ≠ 56 → M1 c = M c) : RepM M1 S1 := by
  obtain ⟨c1, c2, c3, c4, c5, c6, c7, c8, c9⟩ := hC
  unfold RepM
  rw [h 53 (by decide), h 54 (by decide), h 55 (by decide), h 57 (by decide), h 58 (by decide), hr 0 (by decide), hr 1 (by decide), hr 3 (by decide), hr 4 (by decide), hr 5 (by decide), hr 6 (by decide), hr 7 (by decide), hr 8 (by decide), hr 9 (by decide)]
  exact ⟨c1, c2, c3, c4, hs, c6, c7, c8, c9⟩
/-- the first j places as in g, the others as in f -/
def mix (f g : Nat → Int32) (j : Nat) : Nat → Int32 := fun k => if k < j then g k else f k
theorem mix_up {f g : Nat → Int32} {j : Nat} : upd (mix f g j) j (g j) = mix f g (j + 1) := by
  funext k
  by_cases h : k = j
  · subst h; rw [upd_at]; unfold mix; rw [if_pos (by omega)]
  · rw [upd_off h]; unfold mix
    by_cases h2 : k < j
    · rw [if_pos h2, if_pos (by omega)]
    · rw [if_neg h2, if_neg (by omega)]
theorem mix_0 {f g : Nat → Int32} : mix f g 0 = f := by funext k; unfold mix; rw [if_neg (by omega)]
section SP
variable {d : Nat} {Q : Option Value → ex_H → Prop} {lx : Nat} {xs : Nat → Int32} {M : Nat → Nat → Int32} {x y z : Int32} {S : Nat → Nat → Nat} {a b c j k n t q s r ab : Nat}
theorem c_X3_allows_r {A B N Hd : Nat} (hr : r = 11 ∨ r = 12) (hq : q < 144) (h1 : M r (q / 24) = nI A) (h2 : M r (q / 4 % 6) = nI B) (h3 : M 7 (q % 4) = nI N) (h4 : M 6 (q / 4 % 6) = nI Hd) (bA : A < 64) (bB : B < 64) (bN : N < 64) (bH : Hd < 64) : Go (d + 1) 67 0 [some (.ref 2), some (.ref r), some (.int (nI q)), none, none, none] [] (HP lx xs M) Q = Q (some (.int (bI (A.testBit (q % 4) && (!B.testBit (q % 4) && (decide (wo N B = 0) && Hd.testBit (q / 24))))))) (HP lx xs M) := by
  have hw : wo N B < 2147483648 := by have := wo_le N B; omega
  rcases hr with rfl | rfl <;> simp (disch := omega) only [s_67_0, s_67_1, s_67_4, s_67_5, s_67_6, s_67_9, s_67_11, s_67_12, s_67_15, s_67_17, s_67_18, s_67_19_5, s_67_19_11, s_67_19_12, s_67_20, s_67_22, s_67_25, s_67_28, s_67_29, s_67_31_5, s_67_31_11, s_67_31_12, s_67_32, s_67_34, s_67_37, s_67_40, s_67_41, s_67_44, s_67_46, s_67_47, s_67_48, s_67_50_5, s_67_50_11, s_67_50_12, s_67_51, s_67_52, s_67_53, s_67_54, s_67_57, s_67_58, s_67_61, s_67_63, s_67_64, s_67_65, s_67_68, s_67_71, s_67_72, s_67_75, s_67_76_0, s_67_76_1, sb_67_76, c_X6_has, c_X6_teacherOf, c_X6_pupilOf, c_X6_thingOf, ap_some, i_in, i_cl, true_and, h1, h2, h3, h4, bI_0, i_wo, i_e0, q_ite, q_01, q_0b, q_b0, q_bf, Bool.decide_eq_false, Bool.not_not]
/-- the class's, from teaching i on -/
theorem ll_X3_goWithout (hr : r = 11 ∨ r = 12) (hab : ab < 64) : ∀ (m i bz : Nat) (S S0 : Nat → Nat → Nat), WF S → (∀ r, r ≠ 2 → S r = S0 r) → i + m = S 5 0 → bz < 64 → ∀ M, RepC M 2 S0 → (∀ c, c < S 0 0 → M r c = nI (kn (S 2) c)) → ∃ M1, (∀ c, c ≠ r → M1 c = M c) ∧ (∀ c, c < S 0 0 → M1 r c = nI (kn (gw ab m i bz S 2) c)) ∧ ∀ d Q o5, Go (d + 2) 70 17 [some (.ref 2), some (.int (nI ab)), some (.ref r), some (.int (nI (bz ||| ab))), some (.int (nI i)), o5] [] (HP lx xs M) Q = Q none (HP lx xs M1) := by
  intro m
  induction m with
  | zero =>
    intro i bz S S0 hW hS hi hb M hC hK
    have e : i = S0 5 0 := by rw [← hS 5 (by decide)]; omega
    subst e
    have w8 := hW.2.2.2.2.2.2.2.1
    rw [hS 5 (by decide)] at w8
    refine ⟨M, fun _ _ => rfl, hK, fun d Q o5 => ?_⟩
    have c9 := hC.2.2.2.2.2.2.2.2.1
    simp only [Nat.reduceAdd] at c9
    rw [s_70_17]
    simp (disch := omega) only [s_70_19, s_70_20, s_70_23, s_70_26, s_70_110, ↓reduceIte, c9, i_lt, Nat.lt_irrefl]
  | succ m ih =>
    intro i bz S S0 hW hS hi hb M hC hK
    have w1 := hW.1
    have w8 := hW.2.2.2.2.2.2.2.1
    have w6 := hW.2.2.2.2.2.1
    have w7 := hW.2.2.2.2.2.2.1
    obtain ⟨pa, pb, pab, pt, p9, p10⟩ := hW.2.2.2.2.2.2.2.2 i (by omega)
    have hi2 : i < S 5 0 := by omega
    obtain ⟨e1, e2, e3⟩ := tq_a (a := S 6 i) (b := S 7 i) (t := S 8 i) (by omega) (by omega) pt
    have tw := two_lt (a := S 6 i) (b := S 7 i) (by omega) (by omega)
    have hq : (S 6 i * 6 + S 7 i) * 4 + S 8 i < 144 := by omega
    obtain ⟨c1, c2, c3, c4, c5, c6, c7, c8, c9, c10, c11, c12⟩ := hC
    have hC : RepC M 2 S0 := ⟨c1, c2, c3, c4, c5, c6, c7, c8, c9, c10, c11, c12⟩
    simp only [Nat.reduceAdd] at c4 c5 c6 c7 c8 c9 c10 c11 c12
    have f1 := c11 i (by rw [← hS 5 (by decide)]; exact hi2)
    have f2 := c12 i (by rw [← hS 5 (by decide)]; exact hi2)
    rw [← opn_row (hS 9 (by decide))] at f2
    rw [← hS 6 (by decide), ← hS 7 (by decide), ← hS 8 (by decide)] at f1
    rw [← hS 5 (by decide)] at c9
    have f7 := c7 (S 7 i) (by omega)
    have f8 := c8 (S 8 i) pt
    rw [← hS 3 (by decide)] at f7
    rw [← hS 4 (by decide)] at f8
    have v7 := w6 (S 7 i) (by omega)
    have v8 := w7 (S 8 i) pt
    have g1 := hK _ pa
    have g2 := hK _ pb
    have k1 := kn_lt (S 2) (S 6 i)
    have k2 := kn_lt (S 2) (S 7 i)
    have ob : (if opn S i = true then 0 else bz) < 64 := by split <;> omega
    have hal : ∀ d Q, Go (d + 1) 67 0 [some (.ref 2), some (.ref r), some (.int (nI ((S 6 i * 6 + S 7 i) * 4 + S 8 i))), none, none, none] [] (HP lx xs M) Q = Q (some (.int (bI (al S (S 6 i) (S 7 i) (S 8 i))))) (HP lx xs M) := by
      intro d Q
      rw [c_X3_allows_r hr hq (by rw [e1]; exact g1) (by rw [e2]; exact g2) (by rw [e3]; exact f8) (by rw [e2]; exact f7) (by omega) (by omega) (by omega) (by omega), e1, e3, kn_bit _ _ pt, kn_bit _ _ pt]
      rfl
    -- the turn, up to the choice
    have st : ∀ d Q o5, Go (d + 2) 70 17 [some (.ref 2), some (.int (nI ab)), some (.ref r), some (.int (nI (bz ||| ab))), some (.int (nI i)), o5] [] (HP lx xs M) Q = Go (d + 2) 70 56 [some (.ref 2), some (.int (nI ab)), some (.ref r), some (.int (nI ((if opn S i = true then 0 else bz) ||| ab))), some (.int (nI i)), some (.int (nI ((S 6 i * 6 + S 7 i) * 4 + S 8 i)))] [] (HP lx xs M) Q := by
      intro d Q o5
      rw [s_70_17]
      by_cases ho : opn S i = true
      · simp (disch := omega) only [s_70_19, s_70_20, s_70_23, s_70_26, s_70_29, s_70_30, s_70_33, s_70_36, s_70_38, s_70_39, s_70_41, s_70_42, s_70_45, s_70_48, s_70_50, s_70_51, s_70_54, s_70_55, ↓reduceIte, c9, i_lt, hi2, i_in, i_cl, true_and, f1, f2, ho, bI_0, Bool.true_eq_false, Nat.zero_or]
      · rw [Bool.not_eq_true] at ho
        simp (disch := omega) only [s_70_19, s_70_20, s_70_23, s_70_26, s_70_29, s_70_30, s_70_33, s_70_36, s_70_38, s_70_39, s_70_41, s_70_42, s_70_45, s_70_48, s_70_50, s_70_51, s_70_54, s_70_55, ↓reduceIte, c9, i_lt, hi2, i_in, i_cl, true_and, f1, f2, ho, bI_0, Bool.false_eq_true]
    unfold gw
    generalize hg : (if opn S i = true then 0 else bz) = g at ob st ⊢
    have oc : (g ||| ab) &&& (2 ^ S 6 i ||| 2 ^ S 7 i) < 2147483648 := Nat.lt_of_le_of_lt Nat.and_le_right (by omega)
    by_cases hh : (g ||| ab) &&& (2 ^ S 6 i ||| 2 ^ S 7 i) = 0 ∧ al S (S 6 i) (S 7 i) (S 8 i) = true
    · rw [if_pos hh]
      have hm : ∀ c, c < S 0 0 → up M r (S 7 i) (nI (kn (S 2) (S 7 i) ||| 2 ^ S 8 i)) r c = nI (kn (upS S 2 (S 7 i * 4 + S 8 i) 0 2) c) := by
        intro c hc
        by_cases hcb : c = S 7 i
        · subst hcb; rw [up_at, kn_at pt (by decide), if_neg (by decide)]
        · rw [up_off hcb, hK c hc]
          congr 1
          refine (kn_off fun t2 ht2 => ?_).symm
          exact upS_off (by omega)
      have ro : ∀ c, c ≠ r → up M r (S 7 i) (nI (kn (S 2) (S 7 i) ||| 2 ^ S 8 i)) c = M c := fun c hc => up_ne _ _ _ hc
      obtain ⟨M1, q1, q2, q3⟩ := ih (i + 1) (g ||| (2 ^ S 6 i ||| 2 ^ S 7 i)) (upS S 2 (S 7 i * 4 + S 8 i) 0) S0 (WF_say hW (by decide) _) (fun r hr => by rw [upS_row hr]; exact hS r hr) (by rw [upS_row (by decide)]; omega) (Nat.or_lt_two_pow (n := 6) ob tw) (up M r (S 7 i) (nI (kn (S 2) (S 7 i) ||| 2 ^ S 8 i))) (RepC_eq hC fun c h1 h2 => ro c (by omega)) (by rw [upS_row (by decide)]; exact hm)
      refine ⟨M1, fun c hc => (q1 c hc).trans (ro c hc), by rw [upS_row (by decide)] at q2; exact q2, fun d Q o5 => ?_⟩
      rw [st]
      have eo : (g ||| (2 ^ S 6 i ||| 2 ^ S 7 i)) ||| ab = (g ||| ab) ||| (2 ^ S 6 i ||| 2 ^ S 7 i) := or_rc _ _ _
      rw [eo] at q3
      obtain ⟨h1, h2⟩ := hh
      rcases hr with rfl | rfl <;> simp (disch := omega) only [s_70_56, s_70_57, s_70_59, s_70_62, s_70_63, s_70_66, s_70_67, s_70_68, s_70_70, s_70_73, s_70_76, s_70_79, s_70_80, s_70_82, s_70_85, s_70_86, s_70_87, s_70_88, s_70_90, s_70_93, s_70_94_11, s_70_94_12, s_70_95, s_70_96, s_70_98, s_70_101, s_70_102, s_70_103_11, s_70_103_12, s_70_104, s_70_107, ↓reduceIte, c_X6_pairOf, c_X6_pupilOf, c_X6_thingOf, ap_some, e1, e2, e3, i_and, i_e0, h1, hal, h2, bI_0, Bool.true_eq_false, i_or, i_in, i_cl, true_and, g2, i_1s, i_add, q3]
    · rw [if_neg hh]
      obtain ⟨M1, q1, q2, q3⟩ := ih (i + 1) g S S0 hW hS (by omega) ob M hC hK
      refine ⟨M1, q1, q2, fun d Q o5 => ?_⟩
      rw [st]
      by_cases h1 : (g ||| ab) &&& (2 ^ S 6 i ||| 2 ^ S 7 i) = 0
      · have h2 : al S (S 6 i) (S 7 i) (S 8 i) = false := by
          cases h3 : al S (S 6 i) (S 7 i) (S 8 i)
          · rfl
          · exact absurd ⟨h1, h3⟩ hh
        simp (disch := omega) only [s_70_56, s_70_57, s_70_59, s_70_62, s_70_63, s_70_66, s_70_67, s_70_68, s_70_70, s_70_73, s_70_76, s_70_104, s_70_107, ↓reduceIte, c_X6_pairOf, ap_some, e1, e2, i_and, i_e0, h1, hal, h2, bI_0, i_add, q3]
      · simp (disch := omega) only [s_70_56, s_70_57, s_70_59, s_70_62, s_70_63, s_70_104, s_70_107, ↓reduceIte, c_X6_pairOf, ap_some, e1, e2, i_and, i_e0, h1, i_add, q3]
theorem c_X3_goWithout (hr : r = 11 ∨ r = 12) (hab : ab < 64) (hW : WF S) (hC : RepC M 2 S) : ∃ M1, (∀ c, c ≠ r → M1 c = M c) ∧ (∀ c, c < S 0 0 → M1 r c = nI (kn (gw ab (S 5 0) 0 0 S 2) c)) ∧ ∀ d Q, Go (d + 2) 70 0 [some (.ref 2), some (.int (nI ab)), some (.ref r), none, none, none] [] (HP lx xs M) Q = Q none (HP lx xs M1) := by
  have w1 := hW.1
  have c6 := hC.2.2.2.2.2.1
  simp only [Nat.reduceAdd] at c6
  obtain ⟨M1, q1, q2, q3⟩ := ll_X3_goWithout (lx := lx) (xs := xs) hr hab (S 5 0) 0 0 S S hW (fun _ _ => rfl) (by omega) (by decide) (upr M r (va_cpy (M 5) (M r) 0 0 6)) (RepC_eq hC fun c h1 h2 => upr_ne _ _ (by omega)) (fun c hc => by rw [upr_eq]; unfold va_cpy; rw [if_pos (by omega), show 0 + (c - 0) = c by omega]; exact c6 c hc)
  refine ⟨M1, fun c hc => (q1 c hc).trans (upr_ne _ _ hc), q2, fun d Q => ?_⟩
  rw [Nat.zero_or] at q3
  have cp : ∀ L, Go (d + 2) 70 9 L [.int (nI 6), .int (nI 0), .ref r, .int (nI 0), .ref 5] (HP lx xs M) Q = Go (d + 2) 70 12 L [] (HP lx xs (upr M r (va_cpy (M 5) (M r) 0 0 6))) Q := by
    intro L
    rcases hr with rfl | rfl
    · exact go_cp (v := 0) rfl rfl rfl (by decide) (by decide) (by decide) (by decide) hs_11
    · exact go_cp (v := 0) rfl rfl rfl (by decide) (by decide) (by decide) (by decide) hs_12
  simp only [s_70_0, s_70_1, s_70_4, s_70_5, s_70_6, s_70_7, cp, s_70_12, s_70_13, s_70_14, s_70_15]
  exact q3 d Q none
end SP
