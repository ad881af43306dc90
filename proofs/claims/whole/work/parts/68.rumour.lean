/-! who may have had it from whom: how the class works it out -/
def mskn (f : Nat → Bool) : Nat → Nat
  | 0 => 0
  | j + 1 => mskn f j ||| (if f j then 2 ^ j else 0)
theorem mskn_bit (f : Nat → Bool) : ∀ j i, (mskn f j).testBit i = (decide (i < j) && f i) := by
  intro j
  induction j with
  | zero => intro i; rw [mskn, Nat.zero_testBit]; simp
  | succ j ih =>
    intro i
    rw [mskn, Nat.testBit_or, ih]
    by_cases e : i = j
    · subst e
      cases h : f i <;> simp [Nat.testBit_two_pow_self]
    · have e2 : ((if f j then 2 ^ j else 0 : Nat)).testBit i = false := by
        split
        · exact Nat.testBit_two_pow_of_ne (fun q => e q.symm)
        · exact Nat.zero_testBit _
      rw [e2, Bool.or_false]
      congr 1
      exact decide_eq_decide.mpr (by omega)
theorem mskn_lt (f : Nat → Bool) : ∀ j, mskn f j < 2 ^ j := by
  intro j
  induction j with
  | zero => rw [mskn]; decide
  | succ j ih =>
    have h1 : 2 ^ j < 2 ^ (j + 1) := Nat.pow_lt_pow_right (by decide) (by omega)
    rw [mskn]
    refine Nat.or_lt_two_pow (by omega) ?_
    split
    · exact h1
    · exact Nat.two_pow_pos _
theorem mskn_stab {f : Nat → Bool} {n j : Nat} (h : n ≤ j) (hf : ∀ i, n ≤ i → f i = false) : mskn f j = mskn f n := by
  apply Nat.eq_of_testBit_eq
  intro i
  rw [mskn_bit, mskn_bit]
  by_cases e : i < n
  · rw [decide_eq_true e, decide_eq_true (by omega)]
  · rw [hf i (by omega), Bool.and_false, Bool.and_false]
def pk (S : Nat → Nat → Nat) (t c : Nat) : Bool := decide (c < S 0 0) && decide (S 2 (c * 4 + t) < 97)
def KK (S : Nat → Nat → Nat) (t : Nat) : Nat := mskn (pk S t) 6
def fE (S : Nat → Nat → Nat) (t q c : Nat) : Bool := (pk S t q && pk S t c) && ((S 3 q).testBit c && decide (S 2 (q * 4 + t) = ps (S 1 c) (S 2 (c * 4 + t))))
def sr (S : Nat → Nat → Nat) (t q : Nat) : Nat := mskn (fE S t q) 6
theorem KK_bit {S : Nat → Nat → Nat} (hn : S 0 0 ≤ 6) {t c : Nat} : (KK S t).testBit c = pk S t c := by
  unfold KK
  rw [mskn_bit]
  by_cases h : c < 6
  · rw [decide_eq_true h, Bool.true_and]
  · rw [decide_eq_false h, Bool.false_and]
    unfold pk
    rw [decide_eq_false (by omega)]
    rfl
theorem KK_lt {S : Nat → Nat → Nat} {t : Nat} : KK S t < 64 := mskn_lt _ 6
theorem sr_lt {S : Nat → Nat → Nat} {t q : Nat} : sr S t q < 64 := mskn_lt _ 6
theorem sr_bit {S : Nat → Nat → Nat} (hn : S 0 0 ≤ 6) {t q c : Nat} : (sr S t q).testBit c = fE S t q c := by
  unfold sr
  rw [mskn_bit]
  by_cases h : c < 6
  · rw [decide_eq_true h, Bool.true_and]
  · rw [decide_eq_false h, Bool.false_and]
    unfold fE pk
    rw [decide_eq_false (by omega : ¬ c < S 0 0), Bool.false_and, Bool.and_false, Bool.false_and]
theorem sr_self {S : Nat → Nat → Nat} (hW : WF S) {t c : Nat} : (sr S t c).testBit c = false := by
  rw [sr_bit hW.1, ← Bool.not_eq_true]
  intro h
  unfold fE pk at h
  simp only [Bool.and_eq_true, decide_eq_true_eq] at h
  rw [hW.2.2.1.2 c h.1.1.1] at h
  exact absurd h.2.1 (by simp)
theorem sr_K {S : Nat → Nat → Nat} (hn : S 0 0 ≤ 6) {t c p : Nat} (h : (sr S t c).testBit p = true) : (KK S t).testBit p = true := by
  rw [sr_bit hn] at h
  rw [KK_bit hn]
  unfold fE at h
  simp only [Bool.and_eq_true] at h
  exact h.1.2
theorem sr_0 {S : Nat → Nat → Nat} (hn : S 0 0 ≤ 6) {t c : Nat} (h : (KK S t).testBit c = false) : sr S t c = 0 := by
  apply Nat.eq_of_testBit_eq
  intro i
  rw [sr_bit hn, Nat.zero_testBit]
  rw [KK_bit hn] at h
  unfold fE
  rw [h]
  rfl
def RU (M : Nat → Nat → Int32) (K R : Nat) (src : Nat → Nat) : Prop := M 42 1 = nI K ∧ M 42 2 = nI R ∧ ∀ c, c < 6 → M 43 c = nI (src c)
section RUM
variable {d : Nat} {Q : Option Value → ex_H → Prop} {lx : Nat} {xs : Nat → Int32} {M : Nat → Nat → Int32} {S : Nat → Nat → Nat} {src : Nat → Nat} {K R t c j n r : Nat} {o3 o4 o5 o6 : Option Value}
theorem c_fill43 : Go d 13 0 [some (.ref 43), some (.int (nI 0)), none, none] [] (HP lx xs M) Q = Q none (HP lx xs (upr M 43 (mix (M 43) (fun _ => nI 0) 6))) := by
  simp only [s_13_0, s_13_1, s_13_2, s_13_3_37, s_13_3_43, s_13_3_46, s_13_3_48, s_13_3_50, s_13_3_52, s_13_4]
  have l := loopN (fun j => Go d 13 5 [some (.ref 43), some (.int (nI 0)), some (.int (nI j)), some (.int (nI 6))] [] (HP lx xs (upr M 43 (mix (M 43) (fun _ => nI 0) j))) Q) 6 fun j hj => by
    show Go d _ 5 _ _ _ _ = Go d _ 5 _ _ _ _
    rw [s_13_5]
    simp (disch := omega) only [s_13_6, s_13_7, s_13_10, s_13_11, s_13_12, s_13_13_37, s_13_13_43, s_13_13_46, s_13_13_48, s_13_13_50, s_13_13_52, s_13_14, s_13_17, ↓reduceIte, i_lt, hj, i_in, i_cl, true_and, up_upr, i_add]
    rw [mix_up (g := fun _ => nI 0)]
  try dsimp only at l
  rw [mix_0, upr_self] at l
  rw [l, s_13_5]
  simp (disch := omega) only [s_13_6, s_13_7, s_13_10, s_13_11, s_13_12, s_13_13_37, s_13_13_43, s_13_13_46, s_13_13_48, s_13_13_50, s_13_13_52, s_13_14, s_13_17, s_13_20, ↓reduceIte, i_lt, Nat.lt_irrefl]
theorem ll_listen1 (hW : WF S) (ht : t < 4) : ∀ m j M, j + m = S 0 0 → RepC M 2 S → M 42 1 = nI (mskn (pk S t) j) → ∃ M1, (∀ c, c ≠ 42 → M1 c = M c) ∧ M1 42 1 = nI (KK S t) ∧ ∀ d Q o4 o5, Go (d + 1) 106 7 [some (.ref 42), some (.ref 2), some (.int (nI t)), some (.int (nI j)), o4, o5] [] (HP lx xs M) Q = Go (d + 1) 106 46 [some (.ref 42), some (.ref 2), some (.int (nI t)), some (.int (nI (S 0 0))), o4, o5] [] (HP lx xs M1) Q := by
  have w1 := hW.1
  intro m
  induction m with
  | zero =>
    intro j M hj hC h1
    have e : j = S 0 0 := by omega
    subst e
    have c1 := hC.1
    refine ⟨M, fun _ _ => rfl, ?_, fun d Q o4 o5 => ?_⟩
    · rw [h1]; unfold KK
      rw [mskn_stab w1 (fun i hi => by unfold pk; rw [decide_eq_false (by omega)]; rfl)]
    · rw [s_106_7]
      simp (disch := omega) only [s_106_8, s_106_9, s_106_12, ↓reduceIte, c1, i_lt, Nat.lt_irrefl]
  | succ m ih =>
    intro j M hj hC h1
    have hj2 : j < S 0 0 := by omega
    have c1 := hC.1
    have c6 := hC.2.2.2.2.2.1 j hj2
    simp only [Nat.reduceAdd] at c6
    have k1 := kn_lt (S 2) j
    have k2 := kn_bit (S 2) j ht
    have hm := mskn_lt (pk S t) j
    have hm2 : 2 ^ j ≤ 2 ^ 6 := Nat.pow_le_pow_right (by decide) (by omega)
    have pj : pk S t j = decide (S 2 (j * 4 + t) < 97) := by unfold pk; rw [decide_eq_true hj2, Bool.true_and]
    by_cases hb : pk S t j = true
    · obtain ⟨M1, r1, r2, r3⟩ := ih (j + 1) (up M 42 1 (nI (mskn (pk S t) (j + 1)))) (by omega) (RepC_eq hC fun c p q => up_ne _ _ _ (by omega)) up_at
      refine ⟨M1, fun c hc => (r1 c hc).trans (up_ne _ _ _ hc), r2, fun d Q o4 o5 => ?_⟩
      have r4 := r3 d Q o4 o5
      rw [mskn, if_pos hb] at r4
      rw [← pj, hb] at k2
      rw [s_106_7]
      simp (disch := omega) only [s_106_8, s_106_9, s_106_12, s_106_15, s_106_16, s_106_19, s_106_20, s_106_21, s_106_22, s_106_25, s_106_28, s_106_29, s_106_30, s_106_33, s_106_34, s_106_35, s_106_36, s_106_37, s_106_40, s_106_43, ↓reduceIte, c1, i_lt, hj2, i_in, i_cl, true_and, c6, c_X6_has, k2, ap_some, bI_0, Bool.true_eq_false, h1, i_1s, i_or, i_add]
      exact r4
    · obtain ⟨M1, r1, r2, r3⟩ := ih (j + 1) M (by omega) hC (by rw [mskn, if_neg hb, Nat.or_zero]; exact h1)
      refine ⟨M1, r1, r2, fun d Q o4 o5 => ?_⟩
      rw [Bool.not_eq_true] at hb
      rw [← pj, hb] at k2
      rw [s_106_7]
      simp (disch := omega) only [s_106_8, s_106_9, s_106_12, s_106_15, s_106_16, s_106_19, s_106_20, s_106_21, s_106_22, s_106_25, s_106_28, s_106_29, s_106_30, s_106_33, s_106_34, s_106_35, s_106_36, s_106_37, s_106_40, s_106_43, ↓reduceIte, c1, i_lt, hj2, i_in, i_cl, true_and, c6, c_X6_has, k2, ap_some, bI_0, i_add]
      exact r3 d Q o4 o5
theorem fE_s {q : Nat} : mskn (fE S t q) (j + 1) = if fE S t q j = true then mskn (fE S t q) j ||| 2 ^ j else mskn (fE S t q) j := by
  rw [mskn]
  cases fE S t q j <;> simp
theorem ll_listen3 (hW : WF S) (ht : t < 4) (hj : j < S 0 0) (hpj : pk S t j = true) : ∀ m i M, i + m = S 0 0 → RepC M 2 S → M 42 1 = nI (KK S t) → (∀ q, q < 6 → M 43 q = nI (mskn (fE S t q) (if q < i then j + 1 else j))) → ∃ M1, (∀ c, c ≠ 43 → M1 c = M c) ∧ (∀ q, q < 6 → M1 43 q = nI (mskn (fE S t q) (j + 1))) ∧ ∀ d Q, Go (d + 1) 106 106 [some (.ref 42), some (.ref 2), some (.int (nI t)), some (.int (nI j)), some (.int (nI (ps (S 1 j) (S 2 (j * 4 + t))))), some (.int (nI i))] [] (HP lx xs M) Q = Go (d + 1) 106 172 [some (.ref 42), some (.ref 2), some (.int (nI t)), some (.int (nI j)), some (.int (nI (ps (S 1 j) (S 2 (j * 4 + t))))), some (.int (nI (S 0 0)))] [] (HP lx xs M1) Q := by
  have w1 := hW.1
  have hps : S 2 (j * 4 + t) < 97 := by
    unfold pk at hpj
    exact of_decide_eq_true (Bool.and_eq_true_iff.mp hpj).2
  have hpl := ps_lt (k := S 1 j) hps
  intro m
  induction m with
  | zero =>
    intro i M hi hC h1 h43
    have e : i = S 0 0 := by omega
    subst e
    have c1 := hC.1
    refine ⟨M, fun _ _ => rfl, fun q hq => ?_, fun d Q => ?_⟩
    · rw [h43 q hq]
      by_cases z : q < S 0 0
      · rw [if_pos z]
      · rw [if_neg z, fE_s, if_neg]
        unfold fE pk
        rw [decide_eq_false z]
        simp
    · rw [s_106_106]
      simp (disch := omega) only [s_106_108, s_106_109, s_106_112, ↓reduceIte, c1, i_lt, Nat.lt_irrefl]
  | succ m ih =>
    intro i M hi hC h1 h43
    have hi2 : i < S 0 0 := by omega
    have c1 := hC.1
    have c5 := hC.2.2.2.2.1 (i * 4 + t) (by omega)
    have c7 := hC.2.2.2.2.2.2.1 i (by omega)
    simp only [Nat.reduceAdd] at c5 c7
    have w5 := hW.2.2.2.2.1 (i * 4 + t) (by omega)
    have w6 := hW.2.2.2.2.2.1 i (by omega)
    have hK := KK_lt (S := S) (t := t)
    have kb := KK_bit (t := t) (c := i) w1
    have q43 := h43 i (by omega)
    rw [if_neg (Nat.lt_irrefl i)] at q43
    have hm := mskn_lt (fE S t i) j
    have hm2 : 2 ^ j ≤ 2 ^ 6 := Nat.pow_le_pow_right (by decide) (by omega)
    -- what the next turn finds
    have nxt : ∀ M', (∀ c, c ≠ 43 → M' c = M c) → (∀ q, q ≠ i → M' 43 q = M 43 q) → M' 43 i = nI (mskn (fE S t i) (j + 1)) → ∃ M1, (∀ c, c ≠ 43 → M1 c = M c) ∧ (∀ q, q < 6 → M1 43 q = nI (mskn (fE S t q) (j + 1))) ∧ ∀ d Q, Go (d + 1) 106 106 [some (.ref 42), some (.ref 2), some (.int (nI t)), some (.int (nI j)), some (.int (nI (ps (S 1 j) (S 2 (j * 4 + t))))), some (.int (nI (i + 1)))] [] (HP lx xs M') Q = Go (d + 1) 106 172 [some (.ref 42), some (.ref 2), some (.int (nI t)), some (.int (nI j)), some (.int (nI (ps (S 1 j) (S 2 (j * 4 + t))))), some (.int (nI (S 0 0)))] [] (HP lx xs M1) Q := by
      intro M' f1 f2 f3
      obtain ⟨M1, r1, r2, r3⟩ := ih (i + 1) M' (by omega) (RepC_eq hC fun c p q => f1 c (by omega)) (by rw [f1 42 (by decide)]; exact h1) (fun q hq => by
        by_cases z : q = i
        · subst z; rw [if_pos (by omega)]; exact f3
        · rw [f2 q z, h43 q hq]
          by_cases z2 : q < i
          · rw [if_pos z2, if_pos (by omega)]
          · rw [if_neg z2, if_neg (by omega)])
      exact ⟨M1, fun c hc => (r1 c hc).trans (f1 c hc), r2, r3⟩
    by_cases hp : pk S t i = true
    · rw [hp] at kb
      by_cases hh : (S 3 i).testBit j = true
      · by_cases he : S 2 (i * 4 + t) = ps (S 1 j) (S 2 (j * 4 + t))
        · have fe : fE S t i j = true := by unfold fE; rw [hp, hpj, hh, decide_eq_true he]; rfl
          obtain ⟨M1, r1, r2, r3⟩ := nxt (up M 43 i (nI (mskn (fE S t i) (j + 1)))) (fun c hc => up_ne _ _ _ hc) (fun q hq => up_off hq) up_at
          refine ⟨M1, r1, r2, fun d Q => ?_⟩
          have r4 := r3 d Q
          rw [fE_s, if_pos fe] at r4
          rw [s_106_106]
          simp (disch := omega) only [s_106_108, s_106_109, s_106_112, s_106_115, s_106_116, s_106_119, s_106_121, s_106_124, s_106_127, s_106_128, s_106_131, s_106_133, s_106_134, s_106_135, s_106_138, s_106_141, s_106_142, s_106_144, s_106_145, s_106_148, s_106_150, s_106_153, s_106_154, s_106_157, s_106_159, s_106_160, s_106_161, s_106_162, s_106_163, s_106_164, s_106_165, s_106_166, s_106_169, ↓reduceIte, c1, i_lt, hi2, h1, c_X6_has, kb, ap_some, bI_0, Bool.true_eq_false, i_in, i_cl, true_and, c7, hh, c_X3_saying, c5, i_eq, he, q43, i_1s, i_or, i_add]
          exact r4
        · have fe : fE S t i j = false := by unfold fE; rw [decide_eq_false he, Bool.and_false, Bool.and_false]
          obtain ⟨M1, r1, r2, r3⟩ := nxt M (fun _ _ => rfl) (fun _ _ => rfl) (by rw [q43, fE_s, if_neg (by rw [fe]; simp)])
          refine ⟨M1, r1, r2, fun d Q => ?_⟩
          rw [s_106_106]
          simp (disch := omega) only [s_106_108, s_106_109, s_106_112, s_106_115, s_106_116, s_106_119, s_106_121, s_106_124, s_106_127, s_106_128, s_106_131, s_106_133, s_106_134, s_106_135, s_106_138, s_106_141, s_106_142, s_106_144, s_106_145, s_106_148, s_106_150, s_106_153, s_106_154, s_106_157, s_106_159, s_106_160, s_106_161, s_106_162, s_106_163, s_106_164, s_106_165, s_106_166, s_106_169, ↓reduceIte, c1, i_lt, hi2, h1, c_X6_has, kb, ap_some, bI_0, Bool.true_eq_false, i_in, i_cl, true_and, c7, hh, c_X3_saying, c5, i_eq, he, i_add]
          exact r3 d Q
      · have fe : fE S t i j = false := by unfold fE; rw [Bool.not_eq_true _ |>.mp hh, Bool.false_and, Bool.and_false]
        obtain ⟨M1, r1, r2, r3⟩ := nxt M (fun _ _ => rfl) (fun _ _ => rfl) (by rw [q43, fE_s, if_neg (by rw [fe]; simp)])
        refine ⟨M1, r1, r2, fun d Q => ?_⟩
        rw [Bool.not_eq_true] at hh
        rw [s_106_106]
        simp (disch := omega) only [s_106_108, s_106_109, s_106_112, s_106_115, s_106_116, s_106_119, s_106_121, s_106_124, s_106_127, s_106_128, s_106_131, s_106_133, s_106_134, s_106_135, s_106_138, s_106_141, s_106_142, s_106_144, s_106_145, s_106_148, s_106_150, s_106_153, s_106_154, s_106_157, s_106_159, s_106_160, s_106_161, s_106_162, s_106_163, s_106_164, s_106_165, s_106_166, s_106_169, ↓reduceIte, c1, i_lt, hi2, h1, c_X6_has, kb, ap_some, bI_0, Bool.true_eq_false, i_in, i_cl, true_and, c7, hh, i_add]
        exact r3 d Q
    · rw [Bool.not_eq_true] at hp
      rw [hp] at kb
      have fe : fE S t i j = false := by unfold fE; rw [hp]; rfl
      obtain ⟨M1, r1, r2, r3⟩ := nxt M (fun _ _ => rfl) (fun _ _ => rfl) (by rw [q43, fE_s, if_neg (by rw [fe]; simp)])
      refine ⟨M1, r1, r2, fun d Q => ?_⟩
      rw [s_106_106]
      simp (disch := omega) only [s_106_108, s_106_109, s_106_112, s_106_115, s_106_116, s_106_119, s_106_121, s_106_124, s_106_127, s_106_128, s_106_131, s_106_133, s_106_134, s_106_135, s_106_138, s_106_141, s_106_142, s_106_144, s_106_145, s_106_148, s_106_150, s_106_153, s_106_154, s_106_157, s_106_159, s_106_160, s_106_161, s_106_162, s_106_163, s_106_164, s_106_165, s_106_166, s_106_169, ↓reduceIte, c1, i_lt, hi2, h1, c_X6_has, kb, ap_some, bI_0, i_add]
      exact r3 d Q
theorem ll_listen2 (hW : WF S) (ht : t < 4) : ∀ m j M, j + m = S 0 0 → RepC M 2 S → M 42 1 = nI (KK S t) → (∀ q, q < 6 → M 43 q = nI (mskn (fE S t q) j)) → ∃ M1, (∀ c, c ≠ 43 → M1 c = M c) ∧ (∀ q, q < 6 → M1 43 q = nI (sr S t q)) ∧ ∀ d Q o4 o5, Go (d + 1) 106 64 [some (.ref 42), some (.ref 2), some (.int (nI t)), some (.int (nI j)), o4, o5] [] (HP lx xs M) Q = Q none (HP lx xs M1) := by
  have w1 := hW.1
  intro m
  induction m with
  | zero =>
    intro j M hj hC h1 h43
    have e : j = S 0 0 := by omega
    subst e
    have c1 := hC.1
    refine ⟨M, fun _ _ => rfl, fun q hq => ?_, fun d Q o4 o5 => ?_⟩
    · rw [h43 q hq]
      unfold sr
      rw [mskn_stab w1 (fun i hi => by unfold fE pk; rw [decide_eq_false (by omega : ¬ i < S 0 0), Bool.false_and, Bool.and_false, Bool.false_and])]
    · rw [s_106_64]
      simp (disch := omega) only [s_106_65, s_106_66, s_106_69, s_106_178, ↓reduceIte, c1, i_lt, Nat.lt_irrefl]
  | succ m ih =>
    intro j M hj hC h1 h43
    have hj2 : j < S 0 0 := by omega
    have c1 := hC.1
    have hK := KK_lt (S := S) (t := t)
    have kb := KK_bit (t := t) (c := j) w1
    by_cases hp : pk S t j = true
    · rw [hp] at kb
      have hps : S 2 (j * 4 + t) < 97 := by
        unfold pk at hp
        exact of_decide_eq_true (Bool.and_eq_true_iff.mp hp).2
      have c4 := hC.2.2.2.1 j (by omega)
      have c5 := hC.2.2.2.2.1 (j * 4 + t) (by omega)
      simp only [Nat.reduceAdd] at c4 c5
      have w4 := hW.2.2.2.1 j (by omega)
      obtain ⟨M1, r1, r2, r3⟩ := ll_listen3 (lx := lx) (xs := xs) hW ht hj2 hp (S 0 0) 0 M (by omega) hC h1 (fun q hq => by rw [if_neg (by omega)]; exact h43 q hq)
      obtain ⟨M2, s1, s2, s3⟩ := ih (j + 1) M1 (by omega) (RepC_eq hC fun c p q => r1 c (by omega)) (by rw [r1 42 (by decide)]; exact h1) r2
      refine ⟨M2, fun c hc => (s1 c hc).trans (r1 c hc), s2, fun d Q o4 o5 => ?_⟩
      rw [s_106_64]
      simp (disch := omega) only [s_106_65, s_106_66, s_106_69, s_106_72, s_106_73, s_106_76, s_106_77, s_106_80, s_106_83, s_106_86, s_106_87, s_106_90, s_106_91, s_106_92, s_106_93, s_106_94, s_106_95, s_106_98, s_106_101, s_106_103, s_106_104, ↓reduceIte, c1, i_lt, hj2, h1, c_X6_has, kb, ap_some, bI_0, Bool.true_eq_false, i_in, i_cl, true_and, c4, c_X3_saying, c5, c_X6_passedOn]
      rw [r3]
      simp (disch := omega) only [s_106_172, s_106_175, i_add]
      exact s3 d Q _ _
    · rw [Bool.not_eq_true] at hp
      rw [hp] at kb
      obtain ⟨M2, s1, s2, s3⟩ := ih (j + 1) M (by omega) hC h1 (fun q hq => by
        rw [h43 q hq, fE_s, if_neg]
        unfold fE
        rw [hp]
        simp)
      refine ⟨M2, s1, s2, fun d Q o4 o5 => ?_⟩
      rw [s_106_64]
      simp (disch := omega) only [s_106_65, s_106_66, s_106_69, s_106_72, s_106_73, s_106_76, s_106_77, s_106_80, s_106_83, s_106_172, s_106_175, ↓reduceIte, c1, i_lt, hj2, h1, c_X6_has, kb, ap_some, bI_0, i_add]
      exact s3 d Q _ _
theorem c_X2_listen (hW : WF S) (ht : t < 4) (hC : RepC M 2 S) : ∃ M1, (∀ c, c ≠ 42 → c ≠ 43 → M1 c = M c) ∧ RU M1 (KK S t) (KK S t) (sr S t) ∧ ∀ d Q, Go (d + 1) 106 0 [some (.ref 42), some (.ref 2), some (.int (nI t)), none, none, none] [] (HP lx xs M) Q = Q none (HP lx xs M1) := by
  obtain ⟨M1, r1, r2, r3⟩ := ll_listen1 (lx := lx) (xs := xs) hW ht (S 0 0) 0 (up M 42 1 (nI 0)) (by omega) (RepC_eq hC fun c p q => up_ne _ _ _ (by omega)) up_at
  obtain ⟨M2, s1, s2, s3⟩ := ll_listen2 (lx := lx) (xs := xs) hW ht (S 0 0) 0 (upr (up M1 42 2 (nI (KK S t))) 43 (mix ((up M1 42 2 (nI (KK S t))) 43) (fun _ => nI 0) 6)) (by omega) (RepC_eq hC fun c p q => by rw [upr_ne _ _ (by omega), up_ne _ _ _ (by omega), r1 c (by omega), up_ne _ _ _ (by omega)]) (by rw [upr_ne _ _ (by decide), up_off (by decide)]; exact r2) (fun q hq => by rw [upr_eq, mix_lt hq]; rfl)
  refine ⟨M2, fun c h1 h2 => ?_, ⟨?_, ?_, s2⟩, fun d Q => ?_⟩
  · rw [s1 c h2, upr_ne _ _ h2, up_ne _ _ _ h1, r1 c h1, up_ne _ _ _ h1]
  · rw [s1 42 (by decide), upr_ne _ _ (by decide), up_off (by decide)]; exact r2
  · rw [s1 42 (by decide), upr_ne _ _ (by decide), up_at]
  · simp only [s_106_0, s_106_1, s_106_2, s_106_5, s_106_6]
    rw [r3]
    simp (disch := omega) only [s_106_46, s_106_47, s_106_48, s_106_51, s_106_54, s_106_55, s_106_58, s_106_59, s_106_62, s_106_63, r2, c_fill43, ap_none]
    exact s3 d Q _ _
end RUM
