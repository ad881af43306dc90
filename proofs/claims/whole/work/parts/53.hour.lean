/-! hour: class and reference alike -/
theorem and_two {z a b : Nat} : (z &&& (2 ^ a ||| 2 ^ b) = 0) = (z.testBit a = false ∧ z.testBit b = false) := by
  apply propext
  constructor
  · intro h
    have ha : (z &&& (2 ^ a ||| 2 ^ b)).testBit a = false := by rw [h]; exact Nat.zero_testBit _
    have hb : (z &&& (2 ^ a ||| 2 ^ b)).testBit b = false := by rw [h]; exact Nat.zero_testBit _
    rw [Nat.testBit_and, Nat.testBit_or, Nat.testBit_two_pow_self] at ha hb
    exact ⟨by simpa using ha, by simpa using hb⟩
  · rintro ⟨ha, hb⟩
    apply Nat.eq_of_testBit_eq
    intro i
    rw [Nat.testBit_and, Nat.testBit_or, Nat.zero_testBit]
    by_cases e : i = a
    · subst e; rw [ha]; rfl
    · by_cases e2 : i = b
      · subst e2; rw [hb]; rfl
      · rw [Nat.testBit_two_pow_of_ne (fun q => e q.symm), Nat.testBit_two_pow_of_ne (fun q => e2 q.symm)]
        simp
def ia (f : Nat → Int32) (q : Nat) : Nat := (f q).toNatClampNeg
def tg (S : Nat → Nat → Nat) (f : Nat → Int32) (q : Nat) : Bool := isr (f q) (S 0 0) && (isr (f (q + 1)) (S 0 0) && (isr (f (q + 2)) 4 && !decide (f q = f (q + 1))))
def pr2 (f : Nat → Int32) (q : Nat) : Nat := 2 ^ ia f q ||| 2 ^ ia f (q + 1)
def tn (f : Nat → Int32) (q : Nat) : Nat := (ia f q * 6 + ia f (q + 1)) * 4 + ia f (q + 2)
/-- m teachings from place q on may be, at once -/
def hq (S : Nat → Nat → Nat) (f : Nat → Int32) : Nat → Nat → Nat → Bool
  | 0, _, _ => true
  | m + 1, q, bz => (tg S f q && (decide (bz &&& pr2 f q = 0) && al S (ia f q) (ia f (q + 1)) (ia f (q + 2)))) && hq S f m (q + 3) (bz ||| pr2 f q)
/-- .. and are done -/
def hpf (f : Nat → Int32) : Nat → Nat → (Nat → Nat → Nat) → (Nat → Nat → Nat)
  | 0, _, S => S
  | m + 1, q, S => hpf f m (q + 3) (tch S (ia f q) (ia f (q + 1)) (ia f (q + 2)))
def okT (S : Nat → Nat → Nat) (f : Nat → Int32) (q : Nat) : Prop := ia f q < S 0 0 ∧ ia f (q + 1) < S 0 0 ∧ ia f (q + 2) < 4 ∧ S 2 (ia f q * 4 + ia f (q + 2)) < 97
theorem tg_of {S : Nat → Nat → Nat} {f : Nat → Int32} {q : Nat} (h : tg S f q = true) : f q = nI (ia f q) ∧ f (q + 1) = nI (ia f (q + 1)) ∧ f (q + 2) = nI (ia f (q + 2)) ∧ ia f q < S 0 0 ∧ ia f (q + 1) < S 0 0 ∧ ia f (q + 2) < 4 ∧ isr (f q) (S 0 0) = true ∧ isr (f (q + 1)) (S 0 0) = true ∧ isr (f (q + 2)) 4 = true ∧ ¬ f q = f (q + 1) := by
  unfold tg at h
  simp only [Bool.and_eq_true, Bool.not_eq_true', decide_eq_false_iff_not] at h
  obtain ⟨g1, g2, g3, g4⟩ := h
  obtain ⟨a, ha, ha2, ea⟩ := isr_of g1
  obtain ⟨b, hb, hb2, eb⟩ := isr_of g2
  obtain ⟨t, ht, ht2, et⟩ := isr_of g3
  have i0 : ia f q = a := by unfold ia; rw [ea]; exact i_cl ha2
  have i1 : ia f (q + 1) = b := by unfold ia; rw [eb]; exact i_cl hb2
  have i2 : ia f (q + 2) = t := by unfold ia; rw [et]; exact i_cl ht2
  rw [i0, i1, i2]
  exact ⟨ea, eb, et, ha, hb, ht, g1, g2, g3, g4⟩
theorem hq_ok {S : Nat → Nat → Nat} {f : Nat → Int32} : ∀ m q bz, hq S f m q bz = true → ∀ i, i < m → okT S f (q + 3 * i) := by
  intro m
  induction m with
  | zero => intro q bz _ i hi; omega
  | succ m ih =>
    intro q bz h i hi
    unfold hq at h
    simp only [Bool.and_eq_true] at h
    obtain ⟨⟨h1, h2, h3⟩, h4⟩ := h
    by_cases e : i = 0
    · subst e
      obtain ⟨-, -, -, a1, a2, a3, -⟩ := tg_of h1
      exact ⟨a1, a2, a3, al_k h3⟩
    · have := ih (q + 3) _ h4 (i - 1) (by omega)
      rw [show q + 3 + 3 * (i - 1) = q + 3 * i by omega] at this
      exact this
theorem tch_mono {S : Nat → Nat → Nat} {a b t i : Nat} (hk : S 2 (a * 4 + t) < 97) (h : S 2 i < 97) : tch S a b t 2 i < 97 := by
  unfold tch
  rw [upS_row (by decide)]
  by_cases e : i = b * 4 + t
  · subst e; rw [upS_at]; exact ps_lt hk
  · rw [upS_off (fun q => e q.2)]; exact h
theorem okT_tch {S : Nat → Nat → Nat} {f : Nat → Int32} {q a b t : Nat} (hk : S 2 (a * 4 + t) < 97) (h : okT S f q) : okT (tch S a b t) f q := by
  obtain ⟨h1, h2, h3, h4⟩ := h
  unfold okT
  rw [tch_00]
  exact ⟨h1, h2, h3, tch_mono hk h4⟩
section HO
variable {d : Nat} {Q : Option Value → ex_H → Prop} {lx : Nat} {xs : Nat → Int32} {M M1 : Nat → Nat → Int32} {x y z u : Int32} {S K : Nat → Nat → Nat} {hk : Bool} {n : Nat} {T : Nat → Nat} {Z : Nat → stZ} {a b c i j k l r s t w q p nn bz : Nat} {v : stZ} {f : Nat → Int32} {o5 o6 o7 o9 o10 o11 : Option Value}
theorem c_X3_performX (hC : RepC M 2 S) (hW : WF S) (ha : a < S 0 0) (hb : b < S 0 0) (ht : t < 4) (hk : S 2 (a * 4 + t) < 97) (hB : KB M 5) : ∃ M1, RepC M1 2 (tch S a b t) ∧ KB M1 5 ∧ (∀ c, c ≠ 2 → c ≠ 4 → c ≠ 5 → M1 c = M c) ∧ ∀ d Q, Go (d + 2) 68 0 [some (.ref 2), some (.int (nI ((a * 6 + b) * 4 + t))), none, none] [] (HP lx xs M) Q = Q none (HP lx xs M1) := by
  have hp := ps_lt (k := S 1 a) hk
  refine ⟨_, RepC_done (RepC_say hC hW.1 hb ht (Nat.le_of_lt hp)), KB_ne (KB_at (KB_ne hB _ _ (by decide)) _ (by split; exact Nat.lt_of_le_of_lt (wo_le _ _) (kn_lt _ _); exact or_lt16 (kn_lt _ _) ht)) _ _ (by decide), fun c h2 h4 h5 => by rw [up_ne _ _ _ h2, up_ne _ _ _ h5, up_ne _ _ _ h4], fun d Q => ?_⟩
  obtain ⟨w1, w2, w3, w4, w5, w6, w7, w8, w9⟩ := hW
  obtain ⟨c1, c2, c3, c4, c5, c6, c7, c8, c9, c10, c11, c12⟩ := hC
  simp only [Nat.reduceAdd] at c4 c5 c6 c7 c8 c9 c10 c11 c12
  obtain ⟨e1, e2, e3⟩ := tq_a (a := a) (b := b) (t := t) (by omega) (by omega) ht
  have v1 := w4 a (by omega)
  have e4 := c6 b hb
  have e5 := kn_lt (S 2) b
  simp (disch := first | omega | assumption) only [s_68_0, s_68_1, s_68_4, s_68_5, s_68_6, s_68_9, s_68_10, s_68_11, s_68_12, s_68_15, s_68_16, s_68_17, s_68_20, s_68_21, s_68_22, s_68_23, s_68_24, s_68_25, s_68_28, s_68_31, s_68_34, s_68_35, s_68_38, s_68_40, s_68_43, s_68_44, s_68_45, s_68_48, s_68_49, s_68_50, s_68_53, c_X6_teacherOf, c_X6_pupilOf, c_X6_thingOf, c_X6_passedOn, c_X3_saying, c_X3_setSaying (a := kn (S 2) b), ap_some, ap_none, e1, e2, e3, i_in, i_cl, true_and, c4, c5, up_ne, c2, i_lt, i_add]
  by_cases h1 : S 0 1 = 1000000
  · rw [if_neg (by omega), if_pos h1, up_same (c := 2)]
    rw [up_ne _ _ _ (by decide), up_ne _ _ _ (by decide), c2, h1]
  · rw [if_pos (by omega), if_neg h1]
theorem l_X3_holdHour (hs : s < 4) (hW : WF S) (hC : RepC M 2 S) (hf : ∀ i, i < 24 → M (46 + 2 * s) i = f i) (hk : k < nn) (hn : nn ≤ 3) (hp : p + 3 * nn ≤ 24) (hb : bz < 64) : Go (d + 2) 76 6 [some (.ref 2), some (.ref (46 + 2 * s)), some (.int (nI p)), some (.int (nI nn)), some (.int (nI bz)), some (.int (nI k)), o6, o7] [] (HP lx xs M) Q = if (tg S f (p + 3 * k) && (decide (bz &&& pr2 f (p + 3 * k) = 0) && al S (ia f (p + 3 * k)) (ia f (p + 3 * k + 1)) (ia f (p + 3 * k + 2)))) = true then Go (d + 2) 76 6 [some (.ref 2), some (.ref (46 + 2 * s)), some (.int (nI p)), some (.int (nI nn)), some (.int (nI (bz ||| pr2 f (p + 3 * k)))), some (.int (nI (k + 1))), some (.int (nI (p + 3 * k))), some (.int (nI (tn f (p + 3 * k))))] [] (HP lx xs (up M 14 k (nI (tn f (p + 3 * k))))) Q else Q (some (.int (nI 0))) (HP lx xs M) := by
  have w1 := hW.1
  have c1 := hC.1
  have e0 := hf (p + 3 * k) (by omega)
  have e1 := hf (p + 3 * k + 1) (by omega)
  have e2 := hf (p + 3 * k + 2) (by omega)
  rw [s_76_6]
  by_cases hg : tg S f (p + 3 * k) = true
  · obtain ⟨f0, f1, f2, la, lb, lt, g1, g2, g3, g4⟩ := tg_of hg
    rw [f0] at e0 g1 g4
    rw [f1] at e1 g2 g4
    rw [f2] at e2 g3
    unfold pr2 tn
    generalize hga : ia f (p + 3 * k) = a at *
    generalize hgb : ia f (p + 3 * k + 1) = b at *
    generalize hgt : ia f (p + 3 * k + 2) = t at *
    obtain ⟨q1, q2, q3⟩ := tq_a (a := a) (b := b) (t := t) (by omega) (by omega) lt
    have hand : bz &&& (2 ^ a ||| 2 ^ b) < 2147483648 := Nat.lt_of_le_of_lt Nat.and_le_left (by omega)
    by_cases hz : bz &&& (2 ^ a ||| 2 ^ b) = 0
    · by_cases hal : al S a b t = true
      · rw [if_pos (by rw [hg, decide_eq_true hz, hal]; rfl)]
        rcases (by omega : s = 0 ∨ s = 1 ∨ s = 2 ∨ s = 3) with rfl | rfl | rfl | rfl <;> simp only [Nat.reduceMul, Nat.reduceAdd] at e0 e1 e2 ⊢ <;> simp (disch := first | omega | assumption) only [s_76_8, s_76_9, s_76_12, s_76_13, s_76_14, s_76_16, s_76_17, s_76_18, s_76_20, s_76_21, s_76_22, s_76_24_46, s_76_24_48, s_76_24_50, s_76_24_52, s_76_25, s_76_26, s_76_28, s_76_29, s_76_30_46, s_76_30_48, s_76_30_50, s_76_30_52, s_76_31, s_76_32, s_76_34, s_76_35, s_76_36_46, s_76_36_48, s_76_36_50, s_76_36_52, s_76_37, s_76_40, s_76_43, s_76_44_0, s_76_44_1, sb_76_44, s_76_45, s_76_46, s_76_48_46, s_76_48_48, s_76_48_50, s_76_48_52, s_76_49, s_76_50, s_76_52, s_76_53, s_76_54_46, s_76_54_48, s_76_54_50, s_76_54_52, s_76_55, s_76_56, s_76_58, s_76_59, s_76_60_46, s_76_60_48, s_76_60_50, s_76_60_52, s_76_61, s_76_64, s_76_66, s_76_68, s_76_70, s_76_73, s_76_74, s_76_77, s_76_78, s_76_79, s_76_82, s_76_84, s_76_87, s_76_90, s_76_91_0, s_76_91_1, sb_76_91, s_76_92, s_76_94, s_76_96, s_76_99, s_76_100, s_76_102, s_76_103, s_76_106, s_76_108, s_76_110, s_76_111, s_76_114, ↓reduceIte, i_lt, hk, i_add, i_mul, i_in, i_cl, true_and, e0, e1, e2, c_X3_isTeaching w1 c1, c_X6_teaching, c_X6_pairOf, c_X3_allows hC hW la lb lt, q1, q2, g1, g2, g3, g4, decide_false, Bool.not_false, Bool.and_self, ap_some, bI_0, Bool.true_eq_false, i_and, i_e0, hz, hal, i_or]
      · rw [Bool.not_eq_true] at hal
        rw [if_neg (by rw [hal]; simp)]
        rcases (by omega : s = 0 ∨ s = 1 ∨ s = 2 ∨ s = 3) with rfl | rfl | rfl | rfl <;> simp only [Nat.reduceMul, Nat.reduceAdd] at e0 e1 e2 ⊢ <;> simp (disch := first | omega | assumption) only [s_76_8, s_76_9, s_76_12, s_76_13, s_76_14, s_76_16, s_76_17, s_76_18, s_76_20, s_76_21, s_76_22, s_76_24_46, s_76_24_48, s_76_24_50, s_76_24_52, s_76_25, s_76_26, s_76_28, s_76_29, s_76_30_46, s_76_30_48, s_76_30_50, s_76_30_52, s_76_31, s_76_32, s_76_34, s_76_35, s_76_36_46, s_76_36_48, s_76_36_50, s_76_36_52, s_76_37, s_76_40, s_76_43, s_76_44_0, s_76_44_1, sb_76_44, s_76_45, s_76_46, s_76_48_46, s_76_48_48, s_76_48_50, s_76_48_52, s_76_49, s_76_50, s_76_52, s_76_53, s_76_54_46, s_76_54_48, s_76_54_50, s_76_54_52, s_76_55, s_76_56, s_76_58, s_76_59, s_76_60_46, s_76_60_48, s_76_60_50, s_76_60_52, s_76_61, s_76_64, s_76_66, s_76_68, s_76_70, s_76_73, s_76_74, s_76_77, s_76_78, s_76_79, s_76_82, s_76_84, s_76_87, s_76_90, s_76_91_0, s_76_91_1, sb_76_91, s_76_92, s_76_94, s_76_96, s_76_99, s_76_100, s_76_102, s_76_103, s_76_106, s_76_108, s_76_110, s_76_111, s_76_114, ↓reduceIte, i_lt, hk, i_add, i_mul, i_in, i_cl, true_and, e0, e1, e2, c_X3_isTeaching w1 c1, c_X6_teaching, c_X6_pairOf, c_X3_allows hC hW la lb lt, q1, q2, g1, g2, g3, g4, decide_false, Bool.not_false, Bool.and_self, ap_some, bI_0, Bool.true_eq_false, i_and, i_e0, hz, hal]
    · rw [if_neg (by rw [decide_eq_false hz]; simp)]
      rcases (by omega : s = 0 ∨ s = 1 ∨ s = 2 ∨ s = 3) with rfl | rfl | rfl | rfl <;> simp only [Nat.reduceMul, Nat.reduceAdd] at e0 e1 e2 ⊢ <;> simp (disch := first | omega | assumption) only [s_76_8, s_76_9, s_76_12, s_76_13, s_76_14, s_76_16, s_76_17, s_76_18, s_76_20, s_76_21, s_76_22, s_76_24_46, s_76_24_48, s_76_24_50, s_76_24_52, s_76_25, s_76_26, s_76_28, s_76_29, s_76_30_46, s_76_30_48, s_76_30_50, s_76_30_52, s_76_31, s_76_32, s_76_34, s_76_35, s_76_36_46, s_76_36_48, s_76_36_50, s_76_36_52, s_76_37, s_76_40, s_76_43, s_76_44_0, s_76_44_1, sb_76_44, s_76_45, s_76_46, s_76_48_46, s_76_48_48, s_76_48_50, s_76_48_52, s_76_49, s_76_50, s_76_52, s_76_53, s_76_54_46, s_76_54_48, s_76_54_50, s_76_54_52, s_76_55, s_76_56, s_76_58, s_76_59, s_76_60_46, s_76_60_48, s_76_60_50, s_76_60_52, s_76_61, s_76_64, s_76_66, s_76_68, s_76_70, s_76_73, s_76_74, s_76_77, s_76_78, s_76_79, s_76_82, s_76_84, s_76_87, s_76_90, s_76_91_0, s_76_91_1, sb_76_91, s_76_92, s_76_94, s_76_96, s_76_99, s_76_100, s_76_102, s_76_103, s_76_106, s_76_108, s_76_110, s_76_111, s_76_114, ↓reduceIte, i_lt, hk, i_add, i_mul, i_in, i_cl, true_and, e0, e1, e2, c_X3_isTeaching w1 c1, c_X6_teaching, c_X6_pairOf, q1, q2, g1, g2, g3, g4, decide_false, Bool.not_false, Bool.and_self, ap_some, bI_0, Bool.true_eq_false, i_and, i_e0, hz]
  · rw [Bool.not_eq_true] at hg
    rw [if_neg (by rw [hg]; simp)]
    unfold tg at hg
    rcases (by omega : s = 0 ∨ s = 1 ∨ s = 2 ∨ s = 3) with rfl | rfl | rfl | rfl <;> simp only [Nat.reduceMul, Nat.reduceAdd] at e0 e1 e2 ⊢ <;> simp (disch := first | omega | assumption) only [s_76_8, s_76_9, s_76_12, s_76_13, s_76_14, s_76_16, s_76_17, s_76_18, s_76_20, s_76_21, s_76_22, s_76_24_46, s_76_24_48, s_76_24_50, s_76_24_52, s_76_25, s_76_26, s_76_28, s_76_29, s_76_30_46, s_76_30_48, s_76_30_50, s_76_30_52, s_76_31, s_76_32, s_76_34, s_76_35, s_76_36_46, s_76_36_48, s_76_36_50, s_76_36_52, s_76_37, s_76_40, s_76_43, s_76_44_0, s_76_44_1, sb_76_44, ↓reduceIte, i_lt, hk, i_add, i_mul, i_in, i_cl, true_and, e0, e1, e2, c_X3_isTeaching w1 c1, hg, ap_some, bI_0]
theorem ll_X3_holdHour (hs : s < 4) (hW : WF S) (hn : nn ≤ 3) (hp : p + 3 * nn ≤ 24) : ∀ m k bz M o6 o7, k + m = nn → bz < 64 → RepC M 2 S → (∀ i, i < 24 → M (46 + 2 * s) i = f i) → (∀ i, i < k → M 14 i = nI (tn f (p + 3 * i))) → ∃ M1, (∀ c, c ≠ 14 → M1 c = M c) ∧ (hq S f m (p + 3 * k) bz = true → (∀ i, i < nn → M1 14 i = nI (tn f (p + 3 * i))) ∧ ∃ o4 o5 o6' o7', ∀ d Q, Go (d + 2) 76 6 [some (.ref 2), some (.ref (46 + 2 * s)), some (.int (nI p)), some (.int (nI nn)), some (.int (nI bz)), some (.int (nI k)), o6, o7] [] (HP lx xs M) Q = Go (d + 2) 76 117 [some (.ref 2), some (.ref (46 + 2 * s)), some (.int (nI p)), some (.int (nI nn)), o4, o5, o6', o7'] [] (HP lx xs M1) Q) ∧ (hq S f m (p + 3 * k) bz = false → ∀ d Q, Go (d + 2) 76 6 [some (.ref 2), some (.ref (46 + 2 * s)), some (.int (nI p)), some (.int (nI nn)), some (.int (nI bz)), some (.int (nI k)), o6, o7] [] (HP lx xs M) Q = Q (some (.int (nI 0))) (HP lx xs M1)) := by
  intro m
  induction m with
  | zero =>
    intro k bz M o6 o7 hk hb hC hf h14
    have e : k = nn := by omega
    subst e
    refine ⟨M, fun _ _ => rfl, fun _ => ⟨h14, some (.int (nI bz)), some (.int (nI k)), o6, o7, fun d Q => ?_⟩, fun h => absurd h (by unfold hq; simp)⟩
    rw [s_76_6]
    simp (disch := omega) only [s_76_8, s_76_9, ↓reduceIte, i_lt, Nat.lt_irrefl]
  | succ m ih =>
    intro k bz M o6 o7 hk hb hC hf h14
    have tr := fun d Q => l_X3_holdHour (d := d) (Q := Q) (lx := lx) (xs := xs) (k := k) (o6 := o6) (o7 := o7) hs hW hC hf (by omega) hn hp hb
    by_cases hc : (tg S f (p + 3 * k) && (decide (bz &&& pr2 f (p + 3 * k) = 0) && al S (ia f (p + 3 * k)) (ia f (p + 3 * k + 1)) (ia f (p + 3 * k + 2)))) = true
    · have hg := (Bool.and_eq_true_iff.mp hc).1
      obtain ⟨-, -, -, la, lb, -⟩ := tg_of hg
      have w1 := hW.1
      have hb2 : bz ||| pr2 f (p + 3 * k) < 64 := Nat.or_lt_two_pow (n := 6) hb (two_lt (by omega) (by omega))
      obtain ⟨M1, r1, r2, r3⟩ := ih (k + 1) (bz ||| pr2 f (p + 3 * k)) (up M 14 k (nI (tn f (p + 3 * k)))) (some (.int (nI (p + 3 * k)))) (some (.int (nI (tn f (p + 3 * k))))) (by omega) hb2 (RepC_eq hC fun c q1 q2 => up_ne _ _ _ (by omega)) (fun i hi => by rw [up_ne _ _ _ (by omega)]; exact hf i hi) (fun i hi => by
        by_cases e : i = k
        · subst e; rw [up_at]
        · rw [up_off e]; exact h14 i (by omega))
      have e : hq S f (m + 1) (p + 3 * k) bz = hq S f m (p + 3 * (k + 1)) (bz ||| pr2 f (p + 3 * k)) := by
        rw [hq, hc, Bool.true_and, show p + 3 * k + 3 = p + 3 * (k + 1) by omega]
      rw [e]
      refine ⟨M1, fun c hc => (r1 c hc).trans (up_ne _ _ _ hc), fun h => ?_, fun h d Q => ?_⟩
      · obtain ⟨s1, o4, o5, o6', o7', s2⟩ := r2 h
        exact ⟨s1, o4, o5, o6', o7', fun d Q => by rw [tr, if_pos hc, s2]⟩
      · rw [tr, if_pos hc, r3 h]
    · refine ⟨M, fun _ _ => rfl, fun h => ?_, fun h d Q => ?_⟩
      · rw [hq, Bool.not_eq_true _ |>.mp hc] at h
        simp at h
      · rw [tr, if_neg hc]
theorem ll_X3_hold2 (hn : nn ≤ 3) (hp : p + 3 * nn ≤ 24) : ∀ m k S M, k + m = nn → WF S → RepC M 2 S → KB M 5 → (∀ i, i < nn → M 14 i = nI (tn f (p + 3 * i))) → (∀ i, k ≤ i → i < nn → okT S f (p + 3 * i)) → ∃ M1, RepC M1 2 (hpf f m (p + 3 * k) S) ∧ KB M1 5 ∧ (∀ c, c ≠ 2 → c ≠ 4 → c ≠ 5 → M1 c = M c) ∧ ∀ d Q o1 o2 o4 o6 o7, Go (d + 3) 76 120 [some (.ref 2), o1, o2, some (.int (nI nn)), o4, some (.int (nI k)), o6, o7] [] (HP lx xs M) Q = Q (some (.int (nI 1))) (HP lx xs M1) := by
  intro m
  induction m with
  | zero =>
    intro k S M hk hW hC hB h14 hok
    have e : k = nn := by omega
    subst e
    refine ⟨M, hC, hB, fun _ _ _ _ => rfl, fun d Q o1 o2 o4 o6 o7 => ?_⟩
    rw [s_76_120]
    simp (disch := omega) only [s_76_122, s_76_123, s_76_143, s_76_144_0, s_76_144_1, sb_76_144, ↓reduceIte, i_lt, Nat.lt_irrefl]
  | succ m ih =>
    intro k S M hk hW hC hB h14 hok
    obtain ⟨a1, a2, a3, a4⟩ := hok k (by omega) (by omega)
    obtain ⟨M1, r1, r2, r3, r4⟩ := c_X3_performX (lx := lx) (xs := xs) hC hW a1 a2 a3 a4 hB
    obtain ⟨M2, s1, s2, s3, s4⟩ := ih (k + 1) (tch S (ia f (p + 3 * k)) (ia f (p + 3 * k + 1)) (ia f (p + 3 * k + 2))) M1 (by omega) (tch_WF hW a4) r1 r2 (fun i hi => by rw [r3 14 (by decide) (by decide) (by decide)]; exact h14 i hi) (fun i h1 h2 => okT_tch a4 (hok i (by omega) h2))
    refine ⟨M2, by rw [hpf, show p + 3 * k + 3 = p + 3 * (k + 1) by omega]; exact s1, s2, fun c q1 q2 q3 => (s3 c q1 q2 q3).trans (r3 c q1 q2 q3), fun d Q o1 o2 o4 o6 o7 => ?_⟩
    have hkn : k < nn := by omega
    have e14 := h14 k hkn
    unfold tn at e14
    rw [s_76_120]
    simp (disch := omega) only [s_76_122, s_76_123, s_76_126, s_76_127, s_76_128, s_76_131, s_76_133, s_76_134, s_76_137, s_76_140, ↓reduceIte, i_lt, hkn, i_in, i_cl, true_and, e14, r4, ap_none, i_add]
    exact s4 d Q o1 o2 o4 o6 o7
theorem l_X7_hour (hs : s < 4) (hW : WF S) (hC : RepM M S) (hf : ∀ i, i < 24 → M 74 (24 * s + i) = f i) (hk : k < nn) (hn : nn ≤ 3) (hp : p + 3 * nn ≤ 24) (hb : bz < 64) {o1 o2 o3 : Option Value} : Go (d + 3) 168 58 [some (.ref 53), o1, o2, o3, some (.int (nI nn)), o5, some (.int (nI (24 * s + p))), some (.int (nI bz)), some (.int (nI k)), o9, o10, o11] [] (HP lx xs M) Q = if (tg S f (p + 3 * k) && (decide (bz &&& pr2 f (p + 3 * k) = 0) && al S (ia f (p + 3 * k)) (ia f (p + 3 * k + 1)) (ia f (p + 3 * k + 2)))) = true then Go (d + 3) 168 58 [some (.ref 53), o1, o2, o3, some (.int (nI nn)), o5, some (.int (nI (24 * s + p))), some (.int (nI (bz ||| pr2 f (p + 3 * k)))), some (.int (nI (k + 1))), some (.int (f (p + 3 * k))), some (.int (f (p + 3 * k + 1))), some (.int (f (p + 3 * k + 2)))] [] (HP lx xs M) Q else Q (some (.int (-2))) (HP lx xs M) := by
  have w1 := hW.1
  have c1 := hC.1
  have e0 := hf (p + 3 * k) (by omega)
  have e1 := hf (p + 3 * k + 1) (by omega)
  have e2 := hf (p + 3 * k + 2) (by omega)
  rw [show 24 * s + (p + 3 * k) = 24 * s + p + 3 * k by omega] at e0
  rw [show 24 * s + (p + 3 * k + 1) = 24 * s + p + 3 * k + 1 by omega] at e1
  rw [show 24 * s + (p + 3 * k + 2) = 24 * s + p + 3 * k + 2 by omega] at e2
  rw [s_168_58]
  by_cases hg : tg S f (p + 3 * k) = true
  · obtain ⟨f0, f1, f2, la, lb, lt, g1, g2, g3, g4⟩ := tg_of hg
    rw [f0] at e0 g1 g4
    rw [f1] at e1 g2 g4
    rw [f2] at e2 g3
    rw [f0, f1, f2]
    unfold pr2
    generalize hga : ia f (p + 3 * k) = a at *
    generalize hgb : ia f (p + 3 * k + 1) = b at *
    generalize hgt : ia f (p + 3 * k + 2) = t at *
    by_cases hza : bz.testBit a = false
    · by_cases hzb : bz.testBit b = false
      · have hz : bz &&& (2 ^ a ||| 2 ^ b) = 0 := by rw [and_two]; exact ⟨hza, hzb⟩
        by_cases hal : al S a b t = true
        · rw [if_pos (by rw [hg, decide_eq_true hz, hal]; rfl)]
          simp (disch := first | omega | assumption) only [s_168_60, s_168_62, s_168_65, s_168_66, s_168_69, s_168_71, s_168_72, s_168_74, s_168_75, s_168_76, s_168_77, s_168_79, s_168_80, s_168_83, s_168_85, s_168_86, s_168_88, s_168_89, s_168_90, s_168_91, s_168_92, s_168_93, s_168_95, s_168_96, s_168_99, s_168_101, s_168_102, s_168_104, s_168_105, s_168_106, s_168_107, s_168_108, s_168_109, s_168_111, s_168_112, s_168_114, s_168_116, s_168_119, s_168_122, s_168_124, s_168_127, s_168_130, s_168_132, s_168_134, s_168_137, s_168_140, s_168_142, s_168_144, s_168_147, s_168_150, s_168_151, s_168_153, s_168_155, s_168_157, s_168_160, s_168_163, s_168_165, s_168_166, s_168_168, s_168_169, s_168_171, s_168_172, s_168_173, s_168_175, s_168_176, s_168_177, s_168_178, s_168_180, s_168_183, ↓reduceIte, i_lt, hk, i_add, i_mul, i_in, i_cl, true_and, e0, e1, e2, c_X7_areTwo w1 c1, c_X7_isThing, c_X7_has, c_X7_mayBe hC hW (by omega : a < 6) (by omega : b < 6) lt, g1, g2, g3, g4, hza, hzb, decide_false, Bool.not_false, Bool.and_self, ap_some, bI_0, Bool.true_eq_false, hal, i_1s, i_or]
        · rw [Bool.not_eq_true] at hal
          rw [if_neg (by rw [hal]; simp)]
          simp (disch := first | omega | assumption) only [s_168_60, s_168_62, s_168_65, s_168_66, s_168_69, s_168_71, s_168_72, s_168_74, s_168_75, s_168_76, s_168_77, s_168_79, s_168_80, s_168_83, s_168_85, s_168_86, s_168_88, s_168_89, s_168_90, s_168_91, s_168_92, s_168_93, s_168_95, s_168_96, s_168_99, s_168_101, s_168_102, s_168_104, s_168_105, s_168_106, s_168_107, s_168_108, s_168_109, s_168_111, s_168_112, s_168_114, s_168_116, s_168_119, s_168_122, s_168_124, s_168_127, s_168_130, s_168_132, s_168_134, s_168_137, s_168_140, s_168_142, s_168_144, s_168_147, s_168_150, s_168_151, s_168_153, s_168_155, s_168_157, s_168_160, s_168_163, s_168_165, s_168_166, s_168_168, s_168_169, s_168_171, s_168_172, s_168_173, s_168_175, s_168_176, s_168_177, s_168_178, s_168_180, s_168_183, ↓reduceIte, i_lt, hk, i_add, i_mul, i_in, i_cl, true_and, e0, e1, e2, c_X7_areTwo w1 c1, c_X7_isThing, c_X7_has, c_X7_mayBe hC hW (by omega : a < 6) (by omega : b < 6) lt, g1, g2, g3, g4, hza, hzb, decide_false, Bool.not_false, Bool.and_self, ap_some, bI_0, Bool.true_eq_false, hal]
      · rw [if_neg (by rw [decide_eq_false (by rw [and_two]; exact fun q => hzb q.2)]; simp)]
        simp (disch := first | omega | assumption) only [s_168_60, s_168_62, s_168_65, s_168_66, s_168_69, s_168_71, s_168_72, s_168_74, s_168_75, s_168_76, s_168_77, s_168_79, s_168_80, s_168_83, s_168_85, s_168_86, s_168_88, s_168_89, s_168_90, s_168_91, s_168_92, s_168_93, s_168_95, s_168_96, s_168_99, s_168_101, s_168_102, s_168_104, s_168_105, s_168_106, s_168_107, s_168_108, s_168_109, s_168_111, s_168_112, s_168_114, s_168_116, s_168_119, s_168_122, s_168_124, s_168_127, s_168_130, s_168_132, s_168_134, s_168_137, s_168_140, s_168_142, s_168_144, s_168_147, s_168_150, s_168_151, s_168_153, s_168_155, s_168_157, s_168_160, s_168_163, s_168_165, s_168_166, s_168_168, s_168_169, s_168_171, s_168_172, s_168_173, s_168_175, s_168_176, s_168_177, s_168_178, s_168_180, s_168_183, ↓reduceIte, i_lt, hk, i_add, i_mul, i_in, i_cl, true_and, e0, e1, e2, c_X7_areTwo w1 c1, c_X7_isThing, c_X7_has, g1, g2, g3, g4, hza, hzb, decide_false, Bool.not_false, Bool.and_self, ap_some, bI_0, Bool.true_eq_false]
    · rw [if_neg (by rw [decide_eq_false (by rw [and_two]; exact fun q => hza q.1)]; simp)]
      simp (disch := first | omega | assumption) only [s_168_60, s_168_62, s_168_65, s_168_66, s_168_69, s_168_71, s_168_72, s_168_74, s_168_75, s_168_76, s_168_77, s_168_79, s_168_80, s_168_83, s_168_85, s_168_86, s_168_88, s_168_89, s_168_90, s_168_91, s_168_92, s_168_93, s_168_95, s_168_96, s_168_99, s_168_101, s_168_102, s_168_104, s_168_105, s_168_106, s_168_107, s_168_108, s_168_109, s_168_111, s_168_112, s_168_114, s_168_116, s_168_119, s_168_122, s_168_124, s_168_127, s_168_130, s_168_132, s_168_134, s_168_137, s_168_140, s_168_142, s_168_144, s_168_147, s_168_150, s_168_151, s_168_153, s_168_155, s_168_157, s_168_160, s_168_163, s_168_165, s_168_166, s_168_168, s_168_169, s_168_171, s_168_172, s_168_173, s_168_175, s_168_176, s_168_177, s_168_178, s_168_180, s_168_183, ↓reduceIte, i_lt, hk, i_add, i_mul, i_in, i_cl, true_and, e0, e1, e2, c_X7_areTwo w1 c1, c_X7_isThing, c_X7_has, g1, g2, g3, g4, hza, decide_false, Bool.not_false, Bool.and_self, ap_some, bI_0, Bool.true_eq_false]
  · rw [Bool.not_eq_true] at hg
    rw [if_neg (by rw [hg]; simp)]
    unfold tg at hg
    by_cases h3 : isr (f (p + 3 * k + 2)) 4 = true
    · have h4 : (isr (f (p + 3 * k)) (S 0 0) && (isr (f (p + 3 * k + 1)) (S 0 0) && !decide (f (p + 3 * k) = f (p + 3 * k + 1)))) = false := by
        rw [h3, Bool.true_and] at hg; exact hg
      simp (disch := first | omega | assumption) only [s_168_60, s_168_62, s_168_65, s_168_66, s_168_69, s_168_71, s_168_72, s_168_74, s_168_75, s_168_76, s_168_77, s_168_79, s_168_80, s_168_83, s_168_85, s_168_86, s_168_88, s_168_89, s_168_90, s_168_91, s_168_92, s_168_93, s_168_95, s_168_96, s_168_99, s_168_101, s_168_102, s_168_104, s_168_105, s_168_106, s_168_107, s_168_108, s_168_109, s_168_111, s_168_112, s_168_114, s_168_116, s_168_119, s_168_122, s_168_124, s_168_127, s_168_130, s_168_132, s_168_134, s_168_137, s_168_140, s_168_142, s_168_144, s_168_147, s_168_150, s_168_151, s_168_153, s_168_155, s_168_157, s_168_160, s_168_163, s_168_165, ↓reduceIte, i_lt, hk, i_add, i_mul, i_in, i_cl, true_and, e0, e1, e2, c_X7_areTwo w1 c1, h4, ap_some, bI_0]
    · rw [Bool.not_eq_true] at h3
      by_cases h4 : (isr (f (p + 3 * k)) (S 0 0) && (isr (f (p + 3 * k + 1)) (S 0 0) && !decide (f (p + 3 * k) = f (p + 3 * k + 1)))) = false
      · simp (disch := first | omega | assumption) only [s_168_60, s_168_62, s_168_65, s_168_66, s_168_69, s_168_71, s_168_72, s_168_74, s_168_75, s_168_76, s_168_77, s_168_79, s_168_80, s_168_83, s_168_85, s_168_86, s_168_88, s_168_89, s_168_90, s_168_91, s_168_92, s_168_93, s_168_95, s_168_96, s_168_99, s_168_101, s_168_102, s_168_104, s_168_105, s_168_106, s_168_107, s_168_108, s_168_109, s_168_111, s_168_112, s_168_114, s_168_116, s_168_119, s_168_122, s_168_124, s_168_127, s_168_130, s_168_132, s_168_134, s_168_137, s_168_140, s_168_142, s_168_144, s_168_147, s_168_150, s_168_151, s_168_153, s_168_155, s_168_157, s_168_160, s_168_163, s_168_165, ↓reduceIte, i_lt, hk, i_add, i_mul, i_in, i_cl, true_and, e0, e1, e2, c_X7_areTwo w1 c1, h4, ap_some, bI_0]
      · rw [Bool.not_eq_false] at h4
        simp (disch := first | omega | assumption) only [s_168_60, s_168_62, s_168_65, s_168_66, s_168_69, s_168_71, s_168_72, s_168_74, s_168_75, s_168_76, s_168_77, s_168_79, s_168_80, s_168_83, s_168_85, s_168_86, s_168_88, s_168_89, s_168_90, s_168_91, s_168_92, s_168_93, s_168_95, s_168_96, s_168_99, s_168_101, s_168_102, s_168_104, s_168_105, s_168_106, s_168_107, s_168_108, s_168_109, s_168_111, s_168_112, s_168_114, s_168_116, s_168_119, s_168_122, s_168_124, s_168_127, s_168_130, s_168_132, s_168_134, s_168_137, s_168_140, s_168_142, s_168_144, s_168_147, s_168_150, s_168_151, s_168_153, s_168_155, s_168_157, s_168_160, s_168_163, s_168_165, ↓reduceIte, i_lt, hk, i_add, i_mul, i_in, i_cl, true_and, e0, e1, e2, c_X7_areTwo w1 c1, c_X7_isThing, h3, h4, ap_some, bI_0, Bool.true_eq_false]
theorem ll_X7_hour (hs : s < 4) (hW : WF S) (hC : RepM M S) (hf : ∀ i, i < 24 → M 74 (24 * s + i) = f i) (hn : nn ≤ 3) (hp : p + 3 * nn ≤ 24) {o1 o2 o3 : Option Value} : ∀ m k bz o9 o10 o11, k + m = nn → bz < 64 → (hq S f m (p + 3 * k) bz = true → ∃ o7 o8 o9' o10' o11', ∀ d Q, Go (d + 3) 168 58 [some (.ref 53), o1, o2, o3, some (.int (nI nn)), o5, some (.int (nI (24 * s + p))), some (.int (nI bz)), some (.int (nI k)), o9, o10, o11] [] (HP lx xs M) Q = Go (d + 3) 168 186 [some (.ref 53), o1, o2, o3, some (.int (nI nn)), o5, some (.int (nI (24 * s + p))), o7, o8, o9', o10', o11'] [] (HP lx xs M) Q) ∧ (hq S f m (p + 3 * k) bz = false → ∀ d Q, Go (d + 3) 168 58 [some (.ref 53), o1, o2, o3, some (.int (nI nn)), o5, some (.int (nI (24 * s + p))), some (.int (nI bz)), some (.int (nI k)), o9, o10, o11] [] (HP lx xs M) Q = Q (some (.int (-2))) (HP lx xs M)) := by
  intro m
  induction m with
  | zero =>
    intro k bz o9 o10 o11 hk hb
    have e : k = nn := by omega
    subst e
    refine ⟨fun _ => ⟨some (.int (nI bz)), some (.int (nI k)), o9, o10, o11, fun d Q => ?_⟩, fun h => absurd h (by unfold hq; simp)⟩
    rw [s_168_58]
    simp (disch := omega) only [s_168_60, s_168_62, ↓reduceIte, i_lt, Nat.lt_irrefl]
  | succ m ih =>
    intro k bz o9 o10 o11 hk hb
    have tr := fun d Q => l_X7_hour (d := d) (Q := Q) (lx := lx) (xs := xs) (k := k) (o1 := o1) (o2 := o2) (o3 := o3) (o5 := o5) (o9 := o9) (o10 := o10) (o11 := o11) hs hW hC hf (by omega) hn hp hb
    by_cases hc : (tg S f (p + 3 * k) && (decide (bz &&& pr2 f (p + 3 * k) = 0) && al S (ia f (p + 3 * k)) (ia f (p + 3 * k + 1)) (ia f (p + 3 * k + 2)))) = true
    · have hg := (Bool.and_eq_true_iff.mp hc).1
      obtain ⟨-, -, -, la, lb, -⟩ := tg_of hg
      have w1 := hW.1
      have hb2 : bz ||| pr2 f (p + 3 * k) < 64 := Nat.or_lt_two_pow (n := 6) hb (two_lt (by omega) (by omega))
      obtain ⟨r2, r3⟩ := ih (k + 1) (bz ||| pr2 f (p + 3 * k)) (some (.int (f (p + 3 * k)))) (some (.int (f (p + 3 * k + 1)))) (some (.int (f (p + 3 * k + 2)))) (by omega) hb2
      have e : hq S f (m + 1) (p + 3 * k) bz = hq S f m (p + 3 * (k + 1)) (bz ||| pr2 f (p + 3 * k)) := by
        rw [hq, hc, Bool.true_and, show p + 3 * k + 3 = p + 3 * (k + 1) by omega]
      rw [e]
      refine ⟨fun h => ?_, fun h d Q => ?_⟩
      · obtain ⟨o7, o8, a9, a10, a11, s2⟩ := r2 h
        exact ⟨o7, o8, a9, a10, a11, fun d Q => by rw [tr, if_pos hc, s2]⟩
      · rw [tr, if_pos hc, r3 h]
    · refine ⟨fun h => ?_, fun h d Q => ?_⟩
      · rw [hq, Bool.not_eq_true _ |>.mp hc] at h
        simp at h
      · rw [tr, if_neg hc]
theorem ll_X7_hour2 (hs : s < 4) (hn : nn ≤ 3) (hp : p + 3 * nn ≤ 24) {o1 o2 o3 : Option Value} : ∀ m k S M, k + m = nn → WF S → RepM M S → (∀ i, i < 24 → M 74 (24 * s + i) = f i) → (∀ i, k ≤ i → i < nn → okT S f (p + 3 * i) ∧ f (p + 3 * i) = nI (ia f (p + 3 * i)) ∧ f (p + 3 * i + 1) = nI (ia f (p + 3 * i + 1)) ∧ f (p + 3 * i + 2) = nI (ia f (p + 3 * i + 2))) → ∃ M1, RepM M1 (hpf f m (p + 3 * k) S) ∧ frM M M1 ∧ ∀ d Q o7 o9 o10 o11, Go (d + 3) 168 189 [some (.ref 53), o1, o2, o3, some (.int (nI nn)), o5, some (.int (nI (24 * s + p))), o7, some (.int (nI k)), o9, o10, o11] [] (HP lx xs M) Q = Q (some (.int (nI nn))) (HP lx xs M1) := by
  intro m
  induction m with
  | zero =>
    intro k S M hk hW hC hf hok
    have e : k = nn := by omega
    subst e
    refine ⟨M, hC, frM.rf M, fun d Q o7 o9 o10 o11 => ?_⟩
    rw [s_168_189]
    simp (disch := omega) only [s_168_191, s_168_193, s_168_246, s_168_248, ↓reduceIte, i_lt, Nat.lt_irrefl]
  | succ m ih =>
    intro k S M hk hW hC hf hok
    obtain ⟨⟨a1, a2, a3, a4⟩, f0, f1, f2⟩ := hok k (by omega) (by omega)
    have w1 := hW.1
    have e0 := hf (p + 3 * k) (by omega)
    have e1 := hf (p + 3 * k + 1) (by omega)
    have e2 := hf (p + 3 * k + 2) (by omega)
    rw [f0, show 24 * s + (p + 3 * k) = 24 * s + p + 3 * k by omega] at e0
    rw [f1, show 24 * s + (p + 3 * k + 1) = 24 * s + p + 3 * k + 1 by omega] at e1
    rw [f2, show 24 * s + (p + 3 * k + 2) = 24 * s + p + 3 * k + 2 by omega] at e2
    obtain ⟨M1, r1, r2, r3⟩ := c_X7_teachNow (lx := lx) (xs := xs) hC hW (by omega : ia f (p + 3 * k) < 6) (by omega : ia f (p + 3 * k + 1) < 6) a3 a4
    obtain ⟨M2, s1, s2, s3⟩ := ih (k + 1) (tch S (ia f (p + 3 * k)) (ia f (p + 3 * k + 1)) (ia f (p + 3 * k + 2))) M1 (by omega) (tch_WF hW a4) r1 (fun i hi => by rw [r2.2.2.2.2.2.1]; exact hf i hi) (fun i h1 h2 => ⟨okT_tch a4 (hok i (by omega) h2).1, (hok i (by omega) h2).2⟩)
    refine ⟨M2, by rw [hpf, show p + 3 * k + 3 = p + 3 * (k + 1) by omega]; exact s1, r2.tr s2, fun d Q o7 o9 o10 o11 => ?_⟩
    have hkn : k < nn := by omega
    rw [s_168_189]
    simp (disch := omega) only [s_168_191, s_168_193, s_168_196, s_168_197, s_168_198, s_168_201, s_168_203, s_168_204, s_168_206, s_168_207, s_168_208, s_168_209, s_168_210, s_168_213, s_168_215, s_168_216, s_168_218, s_168_219, s_168_220, s_168_221, s_168_222, s_168_223, s_168_224, s_168_227, s_168_229, s_168_230, s_168_232, s_168_233, s_168_234, s_168_235, s_168_236, s_168_237, s_168_240, s_168_243, ↓reduceIte, i_lt, hkn, i_in, i_cl, i_mul, true_and, e0, e1, e2, r3, ap_none, i_add]
    exact s3 d Q o7 o9 o10 o11
theorem hq_tg : ∀ m q bz, hq S f m q bz = true → ∀ i, i < m → tg S f (q + 3 * i) = true := by
  intro m
  induction m with
  | zero => intro q bz _ i hi; omega
  | succ m ih =>
    intro q bz h i hi
    unfold hq at h
    simp only [Bool.and_eq_true] at h
    obtain ⟨⟨h1, h2, h3⟩, h4⟩ := h
    by_cases e : i = 0
    · subst e; exact h1
    · have := ih (q + 3) _ h4 (i - 1) (by omega)
      rw [show q + 3 + 3 * (i - 1) = q + 3 * i by omega] at this
      exact this
theorem hpf_WF : ∀ m q S, WF S → (∀ i, i < m → okT S f (q + 3 * i)) → WF (hpf f m q S) := by
  intro m
  induction m with
  | zero => intro q S h _; exact h
  | succ m ih =>
    intro q S h hok
    have h0 := hok 0 (by omega)
    rw [hpf]
    refine ih (q + 3) _ (tch_WF h h0.2.2.2) (fun i hi => ?_)
    have := hok (i + 1) (by omega)
    rw [show q + 3 * (i + 1) = q + 3 + 3 * i by omega] at this
    exact okT_tch h0.2.2.2 this
end HO
