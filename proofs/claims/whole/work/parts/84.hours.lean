/-! hours: class and reference alike -/
/-- the fewest hours, or that there are none -/
def FA (S : Nat → Nat → Nat) (s st : Nat) (ans : Int32) : Prop := (∃ h, RH S s h st ∧ (∀ k, k < h → ¬ RH S s k st) ∧ ans = nI h) ∨ ((∀ h, ¬ RH S s h st) ∧ ans = -4)
theorem FA_un {S : Nat → Nat → Nat} {s st : Nat} {a b : Int32} (h1 : FA S s st a) (h2 : FA S s st b) : a = b := by
  rcases h1 with ⟨h, q1, q2, q3⟩ | ⟨q1, q2⟩
  · rcases h2 with ⟨k, p1, p2, p3⟩ | ⟨p1, p2⟩
    · have e : h = k := by
        by_cases z : h < k
        · exact absurd q1 (p2 h z)
        · by_cases z2 : k < h
          · exact absurd p1 (q2 k z2)
          · omega
      rw [q3, p3, e]
    · exact absurd q1 (p1 h)
  · rcases h2 with ⟨k, p1, p2, p3⟩ | ⟨p1, p2⟩
    · exact absurd p1 (q1 k)
    · rw [q2, p2]
section HM
variable {S : Nat → Nat → Nat} {s st h : Nat}
theorem hr_loop (hW : WF S) (hs : s < 16) (hb : S 0 0 * pcn s ≤ 12) (hst : stP S s (pcn s) 0 st) : ∀ m h lx xs M, nr S s st h ≤ m → RepM M S → TH M s → RCH M S s st h → (∀ k, k < h → ¬ RH S s k st) → ∃ M1 ans, frH M M1 ∧ FA S s st ans ∧ ∀ d Q o2 o6, Go (d + 3) 145 205 [some (.ref 53), some (.int (nI s)), o2, some (.int (nI (fl S s))), some (.int (nI 1)), some (.int (nI h)), o6] [] (HP lx xs M) Q = Q (some (.int ans)) (HP lx xs M1) := by
  have fl4 := fl_lt hb
  have hsf := stP_lt hb (Nat.le_refl _) (fun _ => rfl) hst
  have n1 : (nI 1 = 0) = False := by decide
  intro m
  induction m with
  | zero =>
    intro h lx xs M hm hC hT hR hk
    have ef := hR (fl S s) (Nat.le_refl _)
    have hf : fr S s st h (fl S s) = true := by
      refine Classical.byContradiction fun q => ?_
      unfold nr at hm
      have : (List.range 4096).countP (fun Y => !fr S s st h Y) = 0 := by omega
      rw [List.countP_eq_zero] at this
      have := this (fl S s) (List.mem_range.mpr fl4)
      rw [Bool.not_eq_true] at q
      rw [q] at this
      exact this rfl
    rw [hf] at ef
    refine ⟨M, nI h, fun _ _ _ _ _ => rfl, Or.inl ⟨h, FR_st.mpr (fr_iff.mp hf), hk, rfl⟩, fun d Q o2 o6 => ?_⟩
    rw [s_145_205]
    simp (disch := omega) only [s_145_207, s_145_210, s_145_211, s_145_214, s_145_215, s_145_216, s_145_219, s_145_221, ↓reduceIte, n1, i_in, i_cl, true_and, ef, bI_0, Bool.true_eq_false]
  | succ m ih =>
    intro h lx xs M hm hC hT hR hk
    have ef := hR (fl S s) (Nat.le_refl _)
    by_cases hf : fr S s st h (fl S s) = true
    · rw [hf] at ef
      refine ⟨M, nI h, fun _ _ _ _ _ => rfl, Or.inl ⟨h, FR_st.mpr (fr_iff.mp hf), hk, rfl⟩, fun d Q o2 o6 => ?_⟩
      rw [s_145_205]
      simp (disch := omega) only [s_145_207, s_145_210, s_145_211, s_145_214, s_145_215, s_145_216, s_145_219, s_145_221, ↓reduceIte, n1, i_in, i_cl, true_and, ef, bI_0, Bool.true_eq_false]
    · have hf2 : ¬ RH S s h st := fun q => hf (fr_iff.mpr (FR_st.mp q))
      rw [Bool.not_eq_true] at hf
      obtain ⟨M1, r1, r2, r3⟩ := hr_one (lx := lx) (xs := xs) hW hs hb hst hC hT hR hf
      by_cases hmo : mo S s st h (fl S s + 1) = true
      · obtain ⟨Y, y1, y2, y3⟩ := (mo_iff _).mp hmo
        have hl := nr_lt (S := S) (s := s) (st := st) (h := h) (Y := Y) (by omega) y2 y3
        obtain ⟨M2, ans, u1, u2, u3⟩ := ih (h + 1) lx xs M1 (by omega) (frH_M r1 hC) (frH_T r1 hT) r2 (fun k hk2 => by
          by_cases z : k = h
          · rw [z]; exact hf2
          · exact hk k (by omega))
        refine ⟨M2, ans, fun c h1 h2 h3 h4 => (u1 c h1 h2 h3 h4).trans (r1 c h1 h2 h3 h4), u2, fun d Q o2 o6 => ?_⟩
        rw [hmo] at r3
        rw [r3]
        exact u3 d Q _ _
      · refine ⟨M1, -4, r1, Or.inr ⟨fun k hk2 => ?_, rfl⟩, fun d Q o2 o6 => ?_⟩
        · have hend := FR_end (S := S) (s := s) (st := st) (h := h) (fun Y hY => by
            refine Classical.byContradiction fun q => hmo ((mo_iff _).mpr ⟨Y, ?_, fr_iff.mpr hY, ?_⟩)
            · have := sub_le (FR_sub hsf (h + 1) Y hY).2
              omega
            · rw [← Bool.not_eq_true, fr_iff]; exact q)
          have q1 := FR_le (FR_st.mp hk2) (h + k) (by omega)
          exact hf2 (FR_st.mpr (hend k _ q1))
        · rw [Bool.not_eq_true] at hmo
          rw [hmo] at r3
          rw [r3, s_145_205]
          simp (disch := omega) only [s_145_207, s_145_364, s_145_366, ↓reduceIte, bI_0]
/-- the things of the set, one after another -/
theorem ll_things (hs : s < 16) : ∀ m t lx xs M, t + m = 4 → M 53 17 = nI (rk s t) → (∀ i, i < rk s t → M 63 i = nI (thg s i)) → ∃ M1, (∀ c, c ≠ 53 → c ≠ 63 → M1 c = M c) ∧ (∀ j, j ≠ 17 → M1 53 j = M 53 j) ∧ TH M1 s ∧ ∀ d Q o3 o4 o5 o6, Go (d + 3) 145 38 [some (.ref 53), some (.int (nI s)), some (.int (nI t)), o3, o4, o5, o6] [] (HP lx xs M) Q = Go (d + 3) 145 77 [some (.ref 53), some (.int (nI s)), some (.int (nI 4)), o3, o4, o5, o6] [] (HP lx xs M1) Q := by
  obtain ⟨t1, t2, t3⟩ := th_rk s hs
  intro m
  induction m with
  | zero =>
    intro t lx xs M ht h17 h63
    have e : t = 4 := by omega
    subst e
    rw [rk_4 s hs] at h17 h63
    refine ⟨M, fun _ _ _ => rfl, fun _ _ => rfl, ⟨h17, h63⟩, fun d Q o3 o4 o5 o6 => ?_⟩
    rw [s_145_38]
    simp (disch := omega) only [s_145_39, s_145_40, ↓reduceIte, i_lt, Nat.lt_irrefl]
  | succ m ih =>
    intro t lx xs M ht h17 h63
    have ht4 : t < 4 := by omega
    have hrs := rk_s s t
    by_cases hb : s.testBit t = true
    · obtain ⟨r1, r2⟩ := t1 t ht4 hb
      rw [if_pos hb] at hrs
      obtain ⟨M1, u1, u2, u3, u4⟩ := ih (t + 1) lx xs (up (up M 63 (rk s t) (nI t)) 53 17 (nI (rk s t + 1))) (by omega) (by rw [up_at, hrs]) (fun i hi => by
        rw [up_ne _ _ _ (by decide)]
        by_cases z : i = rk s t
        · rw [z, up_at, r2]
        · rw [up_off z]; exact h63 i (by omega))
      refine ⟨M1, fun c h1 h2 => by rw [u1 c h1 h2, up_ne _ _ _ h1, up_ne _ _ _ h2], fun j hj => by rw [u2 j hj, up_off hj, up_ne _ _ _ (by decide)], u3, fun d Q o3 o4 o5 o6 => ?_⟩
      have h17' : up M 63 (rk s t) (nI t) 53 17 = nI (rk s t) := by rw [up_ne _ _ _ (by decide)]; exact h17
      rw [← u4, s_145_38]
      simp (disch := omega) only [s_145_39, s_145_40, s_145_43, s_145_44, s_145_45, s_145_48, s_145_51, s_145_52, s_145_55, s_145_56, s_145_59, s_145_60, s_145_61, s_145_62, s_145_63, s_145_66, s_145_67, s_145_68, s_145_71, s_145_74, ↓reduceIte, i_lt, ht4, c_X7_has, hb, ap_some, bI_0, Bool.true_eq_false, h17, i_in, i_cl, true_and, h17', i_add]
    · rw [if_neg hb, Nat.add_zero] at hrs
      rw [Bool.not_eq_true] at hb
      obtain ⟨M1, u1, u2, u3, u4⟩ := ih (t + 1) lx xs M (by omega) (by rw [hrs]; exact h17) (fun i hi => h63 i (by omega))
      refine ⟨M1, u1, u2, u3, fun d Q o3 o4 o5 o6 => ?_⟩
      rw [← u4, s_145_38]
      simp (disch := omega) only [s_145_39, s_145_40, s_145_43, s_145_44, s_145_45, s_145_48, s_145_51, s_145_52, s_145_55, s_145_56, s_145_59, s_145_60, s_145_61, s_145_62, s_145_63, s_145_66, s_145_67, s_145_68, s_145_71, s_145_74, ↓reduceIte, i_lt, ht4, c_X7_has, hb, ap_some, bI_0, i_add]
/-- the state at first, child by child -/
def sR (S : Nat → Nat → Nat) (s C k X : Nat) : Prop := ∀ j, X.testBit j = true ↔ ∃ c i, i < pcn s ∧ (c < C ∨ (c = C ∧ i < k)) ∧ j = c * pcn s + i ∧ (kn (S 2) c).testBit (thg s i) = true
theorem sR_s {C k X : Nat} (hk : k < pcn s) (q : sR S s C k X) : sR S s C (k + 1) (if (kn (S 2) C).testBit (thg s k) = true then X ||| 2 ^ (C * pcn s + k) else X) := by
  intro j
  by_cases hb : (kn (S 2) C).testBit (thg s k) = true
  · rw [if_pos hb, Nat.testBit_or, Bool.or_eq_true, q j]
    constructor
    · rintro (⟨c, i, q1, q2, q3, q4⟩ | z)
      · exact ⟨c, i, q1, by omega, q3, q4⟩
      · exact ⟨C, k, hk, by omega, bit_p z, hb⟩
    · rintro ⟨c, i, q1, q2, q3, q4⟩
      by_cases z : c = C ∧ i = k
      · right; rw [q3, z.1, z.2]; exact Nat.testBit_two_pow_self
      · exact Or.inl ⟨c, i, q1, by omega, q3, q4⟩
  · rw [if_neg hb, q j]
    constructor
    · rintro ⟨c, i, q1, q2, q3, q4⟩
      exact ⟨c, i, q1, by omega, q3, q4⟩
    · rintro ⟨c, i, q1, q2, q3, q4⟩
      by_cases z : c = C ∧ i = k
      · rw [z.1, z.2] at q4; exact absurd q4 hb
      · exact ⟨c, i, q1, by omega, q3, q4⟩
theorem sR_n {C X : Nat} (q : sR S s C (pcn s) X) : sR S s (C + 1) 0 X := fun j => by
  rw [q j]
  constructor
  · rintro ⟨c, i, q1, q2, q3⟩; exact ⟨c, i, q1, by omega, q3⟩
  · rintro ⟨c, i, q1, q2, q3⟩; exact ⟨c, i, q1, by omega, q3⟩
theorem ll_st2 (hW : WF S) (hs : s < 16) (hb : S 0 0 * pcn s ≤ 12) {C lx : Nat} {xs : Nat → Int32} {M : Nat → Nat → Int32} (hC2 : C < S 0 0) (hC : RepM M S) (hT : TH M s) : ∀ m k X, k + m = pcn s → sR S s C k X → ∃ X1, sR S s C (pcn s) X1 ∧ ∀ d Q o5 o6, Go (d + 3) 145 92 [some (.ref 53), some (.int (nI s)), some (.int (nI X)), some (.int (nI C)), some (.int (nI k)), o5, o6] [] (HP lx xs M) Q = Go (d + 3) 145 146 [some (.ref 53), some (.int (nI s)), some (.int (nI X1)), some (.int (nI C)), some (.int (nI (pcn s))), o5, o6] [] (HP lx xs M) Q := by
  have w1 := hW.1
  obtain ⟨t1, t2, t3⟩ := th_rk s hs
  have h17 := hT.1
  intro m
  induction m with
  | zero =>
    intro k X hk hX
    have e : k = pcn s := by omega
    subst e
    refine ⟨X, hX, fun d Q o5 o6 => ?_⟩
    rw [s_145_92]
    simp (disch := omega) only [s_145_94, s_145_95, s_145_98, ↓reduceIte, h17, i_lt, Nat.lt_irrefl]
  | succ m ih =>
    intro k X hk hX
    have hk2 : k < pcn s := by omega
    obtain ⟨X1, r1, r2⟩ := ih (k + 1) _ (by omega) (sR_s hk2 hX)
    refine ⟨X1, r1, fun d Q o5 o6 => ?_⟩
    have e63 := hT.2 k hk2
    have q2 := (t2 k hk2).1
    have pl := pos_lt hC2 hk2
    have cm := Nat.mul_comm (pcn s) C
    have c5 := hC.2.2.2.2.1 (4 * C + thg s k) (by omega)
    have w5 := hW.2.2.2.2.1 (4 * C + thg s k) (by omega)
    have kb := kn_bit (S 2) C q2
    rw [Nat.mul_comm C 4] at kb
    rw [← r2, s_145_92]
    by_cases hl : S 2 (4 * C + thg s k) < 97
    · rw [kb, decide_eq_true hl, if_pos rfl]
      simp (disch := omega) only [s_145_94, s_145_95, s_145_98, s_145_101, s_145_102, s_145_103, s_145_106, s_145_107, s_145_108, s_145_109, s_145_110, s_145_113, s_145_115, s_145_116, s_145_117, s_145_118, s_145_120, s_145_123, s_145_124, s_145_125, s_145_128, s_145_129, s_145_130, s_145_132, s_145_133, s_145_134, s_145_137, s_145_138, s_145_139, s_145_140, s_145_143, ↓reduceIte, h17, i_lt, hk2, i_mul, e63, i_in, i_cl, true_and, i_add, c5, hl, cm, i_1s, i_or]
    · rw [kb, decide_eq_false hl, if_neg (by simp)]
      simp (disch := omega) only [s_145_94, s_145_95, s_145_98, s_145_101, s_145_102, s_145_103, s_145_106, s_145_107, s_145_108, s_145_109, s_145_110, s_145_113, s_145_115, s_145_116, s_145_117, s_145_118, s_145_120, s_145_123, s_145_124, s_145_125, s_145_128, s_145_129, s_145_130, s_145_132, s_145_133, s_145_134, s_145_137, s_145_138, s_145_139, s_145_140, s_145_143, ↓reduceIte, h17, i_lt, hk2, i_mul, e63, i_in, i_cl, true_and, i_add, c5, hl, i_or, Nat.or_zero]
theorem ll_st1 (hW : WF S) (hs : s < 16) (hb : S 0 0 * pcn s ≤ 12) {lx : Nat} {xs : Nat → Int32} {M : Nat → Nat → Int32} (hC : RepM M S) (hT : TH M s) : ∀ m C X, C + m = S 0 0 → sR S s C 0 X → ∃ X1, sR S s (S 0 0) 0 X1 ∧ ∀ d Q o4 o5 o6, ∃ o4', Go (d + 3) 145 81 [some (.ref 53), some (.int (nI s)), some (.int (nI X)), some (.int (nI C)), o4, o5, o6] [] (HP lx xs M) Q = Go (d + 3) 145 152 [some (.ref 53), some (.int (nI s)), some (.int (nI X1)), some (.int (nI (S 0 0))), o4', o5, o6] [] (HP lx xs M) Q := by
  have w1 := hW.1
  have c1 := hC.1
  intro m
  induction m with
  | zero =>
    intro C X hk hX
    have e : C = S 0 0 := by omega
    subst e
    refine ⟨X, hX, fun d Q o4 o5 o6 => ⟨o4, ?_⟩⟩
    rw [s_145_81]
    simp (disch := omega) only [s_145_82, s_145_83, s_145_86, ↓reduceIte, c1, i_lt, Nat.lt_irrefl]
  | succ m ih =>
    intro C X hk hX
    have hC2 : C < S 0 0 := by omega
    obtain ⟨X1, r1, r2⟩ := ll_st2 (lx := lx) (xs := xs) hW hs hb hC2 hC hT (pcn s) 0 X (by omega) hX
    obtain ⟨X2, u1, u2⟩ := ih (C + 1) X1 (by omega) (sR_n r1)
    refine ⟨X2, u1, fun d Q o4 o5 o6 => ?_⟩
    obtain ⟨o4', q⟩ := u2 d Q (some (.int (nI (pcn s)))) o5 o6
    refine ⟨o4', ?_⟩
    rw [← q, s_145_81]
    simp (disch := omega) only [s_145_82, s_145_83, s_145_86, s_145_89, s_145_90, ↓reduceIte, c1, i_lt, hC2]
    refine Eq.trans (r2 d Q _ _) ?_
    simp only [s_145_146, s_145_149, i_add]
theorem c_X7_hours (hW : WF S) (hs : s < 16) (hb : S 0 0 * pcn s ≤ 12) {lx : Nat} {xs : Nat → Int32} {M : Nat → Nat → Int32} (hC : RepM M S) : ∃ M1 st ans, stP S s (pcn s) 0 st ∧ FA S s st ans ∧ RepM M1 S ∧ frM M M1 ∧ ∀ d Q o2 o3 o4 o5 o6, Go (d + 3) 145 31 [some (.ref 53), some (.int (nI s)), o2, o3, o4, o5, o6] [] (HP lx xs M) Q = Q (some (.int ans)) (HP lx xs M1) := by
  have w1 := hW.1
  have fl4 := fl_lt hb
  obtain ⟨M1, r1, r2, r3, r4⟩ := ll_things hs 4 0 lx xs (up M 53 17 (nI 0)) (by omega) (by rw [up_at]; rfl) (fun i hi => by
    have : rk s 0 = 0 := rfl
    omega)
  have g1 : ∀ c, c ≠ 53 → c ≠ 63 → M1 c = M c := fun c h1 h2 => by rw [r1 c h1 h2, up_ne _ _ _ h1]
  have g2 : ∀ j, j ≠ 17 → M1 53 j = M 53 j := fun j hj => by rw [r2 j hj, up_off hj]
  have hC1 : RepM M1 S := RepM_eq hC (fun j _ _ => g2 j (by omega)) (fun c h1 h2 => g1 c (by omega) (by omega))
  obtain ⟨st, u1, u2⟩ := ll_st1 (lx := lx) (xs := xs) hW hs hb hC1 r3 (S 0 0) 0 0 (by omega) (fun j => by
    rw [Nat.zero_testBit]
    constructor
    · intro q; cases q
    · rintro ⟨c, i, -, q, -⟩; omega)
  have hst : stP S s (pcn s) 0 st := fun j => by
    rw [u1 j]
    constructor
    · rintro ⟨c, i, q1, q2, q3⟩; exact ⟨c, i, by omega, by omega, q3⟩
    · rintro ⟨c, i, q1, q2, q3⟩; exact ⟨c, i, by omega, by omega, q3⟩
  have hsf := stP_lt hb (Nat.le_refl _) (fun _ => rfl) hst
  have hst4 : st < 4096 := Nat.lt_of_le_of_lt (sub_le hsf) fl4
  obtain ⟨N, hN⟩ : ∃ N, N = upr M1 61 (mix (M1 61) (fun Y => bI (fr S s st 0 Y)) (fl S s + 1)) := ⟨_, rfl⟩
  have nf : frH M1 N := fun c h1 _ _ _ => by rw [hN, upr_ne _ _ h1]
  obtain ⟨M2, ans, v1, v2, v3⟩ := hr_loop hW hs hb hst (nr S s st 0) 0 lx xs N (Nat.le_refl _) (frH_M nf hC1) (frH_T nf r3) (fun Y hY => by rw [hN, upr_eq, mix_lt (by omega)]) (fun k hk => by omega)
  have fr2 : ∀ c, c ≠ 61 → c ≠ 62 → c ≠ 64 → c ≠ 65 → M2 c = M1 c := fun c h1 h2 h3 h4 => (v1 c h1 h2 h3 h4).trans (nf c h1 h2 h3 h4)
  have fr3 : ∀ c, c ≠ 53 → (c < 61 ∨ 65 < c) → M2 c = M c := fun c h1 h2 => (fr2 c (by omega) (by omega) (by omega) (by omega)).trans (g1 c h1 (by omega))
  have fr4 : ∀ j, j ≠ 17 → M2 53 j = M 53 j := fun j hj => by rw [fr2 53 (by decide) (by decide) (by decide) (by decide)]; exact g2 j hj
  refine ⟨M2, st, ans, hst, v2, frH_M (fun c h1 h2 h3 h4 => fr2 c h1 h2 h3 h4) hC1, ⟨fun c hc => fr3 c (by omega) (by omega), fr3 59 (by decide) (by decide), fr3 71 (by decide) (by decide), fr3 72 (by decide) (by decide), fr3 73 (by decide) (by decide), fr3 74 (by decide) (by decide), fr4 10 (by decide), fr4 28 (by decide)⟩, fun d Q o2 o3 o4 o5 o6 => ?_⟩
  obtain ⟨o4', q⟩ := u2 d Q o4 o5 o6
  have lp := loopN (fun j => Go (d + 3) 145 169 [some (.ref 53), some (.int (nI s)), some (.int (nI st)), some (.int (nI (fl S s))), some (.int (nI j)), o5, o6] [] (HP lx xs (upr M1 61 (mix (M1 61) (fun Y => bI (fr S s st 0 Y)) j))) Q) (fl S s + 1) fun j hj => by
    show Go (d + 3) _ 169 _ _ _ _ = Go (d + 3) _ 169 _ _ _ _
    have hj2 : (fl S s < j) = False := eq_false (by omega)
    rw [← mix_up (f := M1 61) (g := fun Y => bI (fr S s st 0 Y)) (j := j), s_145_169]
    by_cases z : j = st
    · have z1 : fr S s st 0 j = true := fr_iff.mpr z
      have z' : (j = st) = True := eq_true z
      have bt : bI true = nI 1 := rfl
      simp (disch := omega) only [s_145_171, s_145_172, s_145_175, s_145_176, s_145_179, s_145_181, s_145_183, s_145_184, s_145_187, s_145_188, s_145_191, s_145_192, s_145_193, s_145_196, ↓reduceIte, i_lt, hj2, i_eq, z', i_in, i_cl, true_and, vp_t, z1, bt, up_upr, i_add]
    · have z1 : fr S s st 0 j = false := by rw [← Bool.not_eq_true, fr_iff]; exact z
      have z' : (j = st) = False := eq_false z
      have bf : bI false = nI 0 := rfl
      simp (disch := omega) only [s_145_171, s_145_172, s_145_175, s_145_176, s_145_179, s_145_181, s_145_183, s_145_184, s_145_187, s_145_188, s_145_191, s_145_192, s_145_193, s_145_196, ↓reduceIte, i_lt, hj2, i_eq, z', i_in, i_cl, true_and, vp_f, z1, bf, up_upr, i_add]
  try dsimp only at lp
  rw [mix_0, upr_self, ← hN] at lp
  have he : (fl S s < fl S s + 1) = True := eq_true (by omega)
  have p0 := Nat.two_pow_pos (S 0 0 * pcn s)
  have e : nI (2 ^ (S 0 0 * pcn s) - 1) = nI (fl S s) := rfl
  have c1 := hC1.1
  have h17 := r3.1
  simp (disch := omega) only [s_145_31, s_145_32, s_145_33, s_145_36, s_145_37]
  refine Eq.trans (r4 d Q _ _ _ _) ?_
  simp (disch := omega) only [s_145_77, s_145_78, s_145_79, s_145_80]
  refine Eq.trans q ?_
  simp (disch := omega) only [s_145_152, s_145_153, s_145_154, s_145_157, s_145_158, s_145_161, s_145_162, s_145_163, s_145_164, s_145_165, s_145_166, s_145_167, c1, h17, i_mul, i_1s, i_sub, e]
  refine Eq.trans lp ?_
  rw [s_145_169]
  simp (disch := omega) only [s_145_171, s_145_172, s_145_199, s_145_200, s_145_202, s_145_203, ↓reduceIte, i_lt, he]
  exact v3 d Q _ _
theorem op_hours {x : Int32} (hW : WF S) : opS 29 145 [some (.ref 1), some (.int x)] [some (.ref 53), some (.int x), none, none, none, none, none] S := by
  have w1 := hW.1
  have i15 : ∀ d h Q, Go d 114 0 [some (.long x.toInt64), none, some (.long (lN 0)), none, some (.long (lN 15)), none] [] h Q = Q (some (.int (bI (isr x 16)))) h := fun d h Q => by
    rw [in_ab x 0 15 (by decide) (by decide) d h Q]
    congr 4
    unfold isr
    rw [decide_eq_decide]
    omega
  by_cases h1 : isr x 16 = true
  · obtain ⟨s, hs, -, rfl⟩ := isr_of h1
    have p4 := (th_rk s hs).2.2
    have l4 : S 0 0 * pcn s ≤ 6 * 4 := Nat.mul_le_mul w1 p4
    by_cases hb : S 0 0 * pcn s ≤ 12
    · have hlt : (12 < S 0 0 * pcn s) = False := eq_false (by omega)
      -- one start and one answer, taken at any heap
      obtain ⟨st, hst⟩ : ∃ st, stP S s (pcn s) 0 st := by
        refine ⟨mskn (fun j => @decide (∃ c i, c < S 0 0 ∧ (i < pcn s ∨ (i = pcn s ∧ c < 0)) ∧ j = c * pcn s + i ∧ (kn (S 2) c).testBit (thg s i) = true) (Classical.propDecidable _)) 12, fun j => ?_⟩
        rw [mskn_bit]
        simp only [Bool.and_eq_true, decide_eq_true_eq]
        constructor
        · exact fun q => q.2
        · intro q
          obtain ⟨c, i, q1, q2, q3, q4⟩ := q
          have := pos_lt (w := pcn s) (i := i) q1 (by omega)
          exact ⟨by omega, c, i, q1, q2, q3, q4⟩
      obtain ⟨ans, hans⟩ : ∃ ans, FA S s st ans := by
        by_cases z : ∃ h, RH S s h st
        · obtain ⟨h, hh⟩ := z
          have mn : ∀ h, RH S s h st → ∃ k, RH S s k st ∧ ∀ j, j < k → ¬ RH S s j st := by
            intro h
            induction h using Nat.strongRecOn with
            | ind h ih =>
              intro hh
              by_cases z : ∀ j, j < h → ¬ RH S s j st
              · exact ⟨h, hh, z⟩
              · have hex : ∃ j, j < h ∧ RH S s j st := Classical.byContradiction fun q => z fun j hj q' => q ⟨j, hj, q'⟩
                obtain ⟨j, hj, hq⟩ := hex
                exact ih j hj hq
          obtain ⟨k, k1, k2⟩ := mn h hh
          exact ⟨nI k, Or.inl ⟨k, k1, k2, rfl⟩⟩
        · exact ⟨-4, Or.inr ⟨fun h hh => z ⟨h, hh⟩, rfl⟩⟩
      refine ⟨ans, S, hW, fun lx xs M hC hB => ?_, fun lx xs M hC => ?_⟩
      · obtain ⟨M1, X, r1, r2, r3⟩ := c_X4_fewest (lx := lx) (xs := xs) hW hs hb hC
        have eX := stP_un r1 hst
        subst eX
        refine ⟨M1, RepC_eq hC fun c p q => r2 c (by omega), fun i hi => by rw [r2 5 (by decide)]; exact hB i hi, fun c hc => r2 c (by unfold prC at hc; omega), fun Q => ?_⟩
        rcases r3 with ⟨h, a1, a2, a3, a4⟩ | ⟨a1, a4⟩
        · have e : ans = nI h := FA_un hans (Or.inl ⟨h, a1, a2, rfl⟩)
          have a5 := fun Q => a4 1998 Q (by decide)
          rw [e]
          simp (disch := omega) only [s_29_0, s_29_1, s_29_4, s_29_7, s_29_8, s_29_9, s_29_10, s_29_13, s_29_16, s_29_17, s_29_20, s_29_21, s_29_23, s_29_26, s_29_28, s_29_29, s_29_30, s_29_33, s_29_34, s_29_37, s_29_38, s_29_41, ↓reduceIte, c_X6_isSet, h1, bI_0, Bool.true_eq_false, ap_some, hC.1, c_bitCount, i_mul, i_lt, hlt, a5]
        · have e : ans = -4 := FA_un hans (Or.inr ⟨a1, rfl⟩)
          have a5 := fun Q => a4 1998 Q (by decide)
          rw [e]
          simp (disch := omega) only [s_29_0, s_29_1, s_29_4, s_29_7, s_29_8, s_29_9, s_29_10, s_29_13, s_29_16, s_29_17, s_29_20, s_29_21, s_29_23, s_29_26, s_29_28, s_29_29, s_29_30, s_29_33, s_29_34, s_29_37, s_29_38, s_29_41, ↓reduceIte, c_X6_isSet, h1, bI_0, Bool.true_eq_false, ap_some, hC.1, c_bitCount, i_mul, i_lt, hlt, a5]
      · obtain ⟨M1, X, a, r1, r2, r3, r4, r5⟩ := c_X7_hours (lx := lx) (xs := xs) hW hs hb hC
        have eX := stP_un r1 hst
        subst eX
        have e : ans = a := FA_un hans r2
        refine ⟨M1, r3, r4, fun Q => ?_⟩
        have r6 := r5 1996
        simp only [Nat.reduceAdd] at r6
        rw [e]
        simp (disch := omega) only [s_145_0, s_145_1, s_145_2, s_145_3, s_145_6, s_145_9, s_145_12, s_145_13, s_145_14, s_145_15, s_145_18, s_145_19, s_145_22, s_145_23, s_145_25, s_145_28, ↓reduceIte, i15, h1, ap_some, bI_0, Bool.true_eq_false, hC.1, c_X7_ones, i_mul, i_lt, hlt]
        exact r6 Q _ _ _ _ _
    · have hlt : (12 < S 0 0 * pcn s) = True := eq_true (by omega)
      refine opS_same (-3) hW (fun lx xs M hC Q => ?_) (fun lx xs M hC Q => ?_)
      · simp (disch := omega) only [s_29_0, s_29_1, s_29_4, s_29_7, s_29_8, s_29_9, s_29_10, s_29_13, s_29_16, s_29_17, s_29_20, s_29_21, s_29_23, s_29_26, s_29_28, s_29_29, s_29_30, s_29_33, s_29_34, s_29_37, s_29_38, s_29_41, ↓reduceIte, c_X6_isSet, h1, bI_0, Bool.true_eq_false, ap_some, hC.1, c_bitCount, i_mul, i_lt, hlt]
      · simp (disch := omega) only [s_145_0, s_145_1, s_145_2, s_145_3, s_145_6, s_145_9, s_145_12, s_145_13, s_145_14, s_145_15, s_145_18, s_145_19, s_145_22, s_145_23, s_145_25, s_145_28, s_145_30, ↓reduceIte, i15, h1, ap_some, bI_0, Bool.true_eq_false, hC.1, c_X7_ones, i_mul, i_lt, hlt]
  · rw [Bool.not_eq_true] at h1
    refine opS_same (-1) hW (fun lx xs M hC Q => ?_) (fun lx xs M hC Q => ?_)
    · simp (disch := omega) only [s_29_0, s_29_1, s_29_4, s_29_7, s_29_8, s_29_9, s_29_10, s_29_13, s_29_16, s_29_17, s_29_20, s_29_21, s_29_23, s_29_26, s_29_28, s_29_29, s_29_30, s_29_33, s_29_34, s_29_37, s_29_38, s_29_41, ↓reduceIte, c_X6_isSet, h1, bI_0, ap_some]
    · simp (disch := omega) only [s_145_0, s_145_1, s_145_2, s_145_3, s_145_6, s_145_9, s_145_12, s_145_13, s_145_14, s_145_15, s_145_18, s_145_19, s_145_22, s_145_23, s_145_25, s_145_28, s_145_30, ↓reduceIte, i15, h1, ap_some, bI_0]
end HM
