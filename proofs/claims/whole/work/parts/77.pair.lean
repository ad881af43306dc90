/-! hours: whether so many are enough -/
abbrev RH (S : Nat → Nat → Nat) (s h X : Nat) : Prop := Rh (pcn s) (mT S s) (fl S s) (aln S) h X
abbrev MTS (S : Nat → Nat → Nat) (s X F : Nat) (l : List tr3) : Prop := MT (pcn s) (mT S s) X F l
def TFi (M : Nat → Nat → Int32) (S : Nat → Nat → Nat) (s : Nat) : Prop := ∀ X, sub X (fl S s) → X ≠ fl S s → ∃ v, v ≤ 12 ∧ M 41 X = nI v ∧ ¬ RH S s v X
def INVs (M : Nat → Nat → Int32) (S : Nat → Nat → Nat) (s : Nat) : Prop := SEf M S s ∧ TFi M S s
def frS (h : Nat) (M M1 : Nat → Nat → Int32) : Prop := (∀ c, c ≠ 39 → c ≠ 40 → c ≠ 41 → M1 c = M c) ∧ (∀ j, h * 36 ≤ j → M1 39 j = M 39 j) ∧ (∀ j, h * 6 ≤ j → M1 40 j = M 40 j)
theorem frS_rf (h : Nat) (M : Nat → Nat → Int32) : frS h M M := ⟨fun _ _ _ _ => rfl, fun _ _ => rfl, fun _ _ => rfl⟩
theorem frS_tr {h : Nat} {M M1 M2 : Nat → Nat → Int32} (a : frS h M M1) (b : frS h M1 M2) : frS h M M2 := ⟨fun c h1 h2 h3 => (b.1 c h1 h2 h3).trans (a.1 c h1 h2 h3), fun j hj => (b.2.1 j hj).trans (a.2.1 j hj), fun j hj => (b.2.2 j hj).trans (a.2.2 j hj)⟩
theorem frS_GR {S : Nat → Nat → Nat} {s h X : Nat} {M M1 : Nat → Nat → Int32} (a : frS h M M1) (g : GR M S s h X) : GR M1 S s h X := ⟨fun x y hx hy => by rw [a.2.1 _ (by omega)]; exact g.1 x y hx hy, fun c hc => by rw [a.2.2 _ (by omega)]; exact g.2 c hc⟩
/-- found: it can be; and what must be found: an hour to which nothing can be added -/
def Snd (S : Nat → Nat → Nat) (s X h F th : Nat) : Prop := ∃ l, MTS S s X F l ∧ RH S s h (val (pcn s) th l)
def mxl (S : Nat → Nat → Nat) (s X U : Nat) : Prop := ∀ x y, U.testBit x = true → U.testBit y = true → x ≠ y → ¬ pt (pcn s) (mT S s) X x y
def Gd (S : Nat → Nat → Nat) (s X h F I th : Nat) : Prop := ∃ l, MTS S s X F l ∧ mxl S s X (I ||| un F l) ∧ RH S s h (val (pcn s) th l)
def PUc (S : Nat → Nat → Nat) (s h X F I th : Nat) : Prop := ∀ lx xs M, INVs M S s → GR M S s (h + 1) X → ∃ M1 b, INVs M1 S s ∧ frS (h + 1) M M1 ∧ (b = true → Snd S s X h F th) ∧ (Gd S s X h F I th → b = true) ∧ ∀ D Q, 20 * h + 8 + 2 * pcn F ≤ D → Go D 102 0 [some (.ref 35), some (.int (nI (h + 1))), some (.int (nI F)), some (.int (nI I)), some (.int (nI th)), none, none, none, none, none, none] [] (HP lx xs M) Q = Q (some (.int (bI b))) (HP lx xs M1)
def IEc (S : Nat → Nat → Nat) (s h : Nat) : Prop := ∀ lx xs M X, INVs M S s → sub X (fl S s) → ∃ M1 b, INVs M1 S s ∧ frS (h + 1) M M1 ∧ (b = true ↔ RH S s h X) ∧ ∀ D Q, 20 * h + 5 ≤ D → Go D 100 0 [some (.ref 35), some (.int (nI h)), some (.int (nI X))] [] (HP lx xs M) Q = Q (some (.int (bI b))) (HP lx xs M1)
theorem sub_le {X Y : Nat} (h : sub X Y) : X ≤ Y := Nat.le_of_testBit fun i hi => h i hi
theorem wo_or (F a b : Nat) : wo F (a ||| b) = wo (wo F a) b := Nat.eq_of_testBit_eq fun i => by
  rw [wo_bit, wo_bit, wo_bit, Nat.testBit_or]
  cases F.testBit i <;> cases a.testBit i <;> cases b.testBit i <;> rfl
theorem shl_bit {g k j : Nat} : (g * 2 ^ k).testBit j = (decide (k ≤ j) && g.testBit (j - k)) := by
  rw [Nat.testBit_mul_two_pow]
theorem pcn_0_6 : ∀ F, F < 64 → pcn F = 0 → F = 0 := by decide +kernel
theorem pcn_al : ∀ n, n ≤ 6 → pcn (2 ^ n - 1) = n ∧ 2 ^ n - 1 < 64 := by
  intro n hn
  have : ∀ n, n < 7 → pcn (2 ^ n - 1) = n ∧ 2 ^ n - 1 < 64 := by decide +kernel
  exact this n (by omega)
section PU
variable {S : Nat → Nat → Nat} {s h X F I th : Nat}
theorem fl_lt (hb : S 0 0 * pcn s ≤ 12) : fl S s < 4096 := by
  unfold fl
  have h1 : 2 ^ (S 0 0 * pcn s) ≤ 2 ^ 12 := Nat.pow_le_pow_right (by decide) hb
  have h2 := Nat.two_pow_pos (S 0 0 * pcn s)
  omega
theorem MT_nil0 : ∀ l, MTS S s X 0 l → l = [] := by
  intro l hl
  cases l with
  | nil => rfl
  | cons x l => have := hl.1; rw [Nat.zero_testBit] at this; cases this
theorem lk_Gd (hn : S 0 0 ≤ 6) (hF : F < 64) {l : List tr3} (hl : MTS S s X F l) (hR : RH S s h (val (pcn s) th l)) : lk (fl S s) th ≤ pcn F / 2 + h * (S 0 0 / 2) := by
  obtain ⟨a1, a2⟩ := pcn_al (S 0 0) hn
  have h1 := Rh_lk (n := S 0 0) a2 a1 h _ hR
  have h2 := lk_val (w := pcn s) (full := fl S s) l th
  have h3 := MT_len l F hF hl
  omega
/-- a pair teaches: one of the chances -/
theorem c_X4_pairTaught (hb : S 0 0 * pcn s ≤ 12) {C : Nat} (hC : C < 4096) (hF : F < 64) (hh : h < 12) (hp : ∀ j, C.testBit j = true → PUc S s h X F I (th ||| 2 ^ j)) {lx : Nat} {xs : Nat → Int32} : ∀ n j M, j + n = 12 → INVs M S s → GR M S s (h + 1) X → ∃ M1 r, INVs M1 S s ∧ frS (h + 1) M M1 ∧ (r = true → ∃ j, C.testBit j = true ∧ Snd S s X h F (th ||| 2 ^ j)) ∧ ((∃ k, j ≤ k ∧ C.testBit k = true ∧ Gd S s X h F I (th ||| 2 ^ k)) → r = true) ∧ ∀ D Q, 20 * h + 9 + 2 * pcn F ≤ D → Go D 103 3 [some (.ref 35), some (.int (nI (h + 1))), some (.int (nI F)), some (.int (nI I)), some (.int (nI th)), some (.int (nI C)), some (.int (nI j))] [] (HP lx xs M) Q = Q (some (.int (bI r))) (HP lx xs M1) := by
  intro n
  induction n with
  | zero =>
    intro j M hj hI hG
    have e : j = 12 := by omega
    subst e
    refine ⟨M, false, hI, frS_rf _ M, fun q => (by cases q), ?_, fun D Q hD => ?_⟩
    · rintro ⟨k, k1, k2, -⟩
      have := tb_lt (n := 12) hC k2
      omega
    · rw [s_103_3]
      simp (disch := omega) only [s_103_5, s_103_7, s_103_45, s_103_46_0, s_103_46_1, sb_103_46, ↓reduceIte, i_lt, Nat.lt_irrefl]
      rfl
  | succ n ih =>
    intro j M hj hI hG
    have hj2 : j < 12 := by omega
    by_cases hc : C.testBit j = true
    · obtain ⟨M1, b, r1, r2, r3, r4, r5⟩ := hp j hc lx xs M hI hG
      cases b with
      | true =>
        refine ⟨M1, true, r1, r2, fun _ => ⟨j, hc, r3 rfl⟩, fun _ => rfl, fun D Q hD => ?_⟩
        obtain ⟨D', rfl⟩ : ∃ D', D = D' + 1 := ⟨D - 1, by omega⟩
        have r6 := fun Q => r5 D' Q (by omega)
        rw [s_103_3]
        simp (disch := omega) only [s_103_5, s_103_7, s_103_10, s_103_12, s_103_14, s_103_17, s_103_20, s_103_21, s_103_22, s_103_23, s_103_24, s_103_26, s_103_27, s_103_29, s_103_30, s_103_31, s_103_34, s_103_37, s_103_38_0, s_103_38_1, sb_103_38, s_103_39, s_103_42, ↓reduceIte, i_lt, hj2, c_X6_has, hc, ap_some, bI_0, Bool.true_eq_false, i_1s, i_or, r6]
        rfl
      | false =>
        obtain ⟨M2, r, s1, s2, s3, s4, s5⟩ := ih (j + 1) M1 (by omega) r1 (frS_GR r2 hG)
        refine ⟨M2, r, s1, frS_tr r2 s2, s3, ?_, fun D Q hD => ?_⟩
        · rintro ⟨k, k1, k2, k3⟩
          by_cases z : k = j
          · rw [z] at k3; exact absurd (r4 k3) (by simp)
          · exact s4 ⟨k, by omega, k2, k3⟩
        · have s6 := s5 D Q hD
          obtain ⟨D', rfl⟩ : ∃ D', D = D' + 1 := ⟨D - 1, by omega⟩
          have r6 := fun Q => r5 D' Q (by omega)
          rw [s_103_3]
          simp (disch := omega) only [s_103_5, s_103_7, s_103_10, s_103_12, s_103_14, s_103_17, s_103_20, s_103_21, s_103_22, s_103_23, s_103_24, s_103_26, s_103_27, s_103_29, s_103_30, s_103_31, s_103_34, s_103_37, s_103_38_0, s_103_38_1, sb_103_38, s_103_39, s_103_42, ↓reduceIte, i_lt, hj2, c_X6_has, hc, ap_some, bI_0, Bool.true_eq_false, i_1s, i_or, r6, i_add]
          exact s6
    · obtain ⟨M2, r, s1, s2, s3, s4, s5⟩ := ih (j + 1) M (by omega) hI hG
      have hc2 := hc
      rw [Bool.not_eq_true] at hc
      refine ⟨M2, r, s1, s2, s3, ?_, fun D Q hD => ?_⟩
      · rintro ⟨k, k1, k2, k3⟩
        have z : k ≠ j := fun z => by rw [z] at k2; exact hc2 k2
        exact s4 ⟨k, by omega, k2, k3⟩
      · have s6 := s5 D Q hD
        obtain ⟨D', rfl⟩ : ∃ D', D = D' + 1 := ⟨D - 1, by omega⟩
        rw [s_103_3]
        simp (disch := omega) only [s_103_5, s_103_7, s_103_10, s_103_12, s_103_14, s_103_17, s_103_20, s_103_21, s_103_22, s_103_23, s_103_24, s_103_26, s_103_27, s_103_29, s_103_30, s_103_31, s_103_34, s_103_37, s_103_38_0, s_103_38_1, sb_103_38, s_103_39, s_103_42, ↓reduceIte, i_lt, hj2, c_X6_has, hc, ap_some, bI_0, i_add]
        exact s6
theorem un_rm {a : Nat} : ∀ l F, MTS S s X (wo F (2 ^ a)) l → F.testBit a = true → (un F l).testBit a = true ∧ un (wo F (2 ^ a)) l = wo (un F l) (2 ^ a) := by
  intro l
  induction l with
  | nil => intro F _ h; exact ⟨h, rfl⟩
  | cons y l ih =>
    intro F h ha
    obtain ⟨a1, a2, a3, a4, a5, a6⟩ := h
    have n1 := (wo_b.mp a1).2
    have n2 := (wo_b.mp a2).2
    have c1 : wo (wo (wo F (2 ^ a)) (2 ^ y.1)) (2 ^ y.2.1) = wo (wo (wo F (2 ^ y.1)) (2 ^ y.2.1)) (2 ^ a) := by rw [wo_c F (2 ^ a), wo_c (wo F (2 ^ y.1)) (2 ^ a)]
    rw [c1] at a6
    obtain ⟨b1, b2⟩ := ih _ a6 (by rw [wo_b, wo_b]; exact ⟨⟨ha, fun z => n1 z.symm⟩, fun z => n2 z.symm⟩)
    exact ⟨b1, by rw [un, c1, b2, un]⟩
theorem MT_rm2 : ∀ l F a, MTS S s X F l → F.testBit a = true → MTS S s X (wo F (2 ^ a)) l ∨ ∃ x l', (x.1 = a ∨ x.2.1 = a) ∧ MTS S s X F (x :: l') ∧ (∀ th, val (pcn s) th l = val (pcn s) th (x :: l')) ∧ un F l = un F (x :: l') := by
  intro l
  induction l with
  | nil => intro F a _ _; exact Or.inl trivial
  | cons y l ih =>
    intro F a h ha
    by_cases hy : y.1 = a ∨ y.2.1 = a
    · exact Or.inr ⟨y, l, hy, h, fun _ => rfl, rfl⟩
    · obtain ⟨a1, a2, a3, a4, a5, a6⟩ := h
      have n1 : a ≠ y.1 := fun q => hy (Or.inl q.symm)
      have n2 : a ≠ y.2.1 := fun q => hy (Or.inr q.symm)
      rcases ih _ a a6 (by rw [wo_b, wo_b]; exact ⟨⟨ha, n1⟩, n2⟩) with q | ⟨x, l', q1, q2, q4, q5⟩
      · left
        refine ⟨by rw [wo_b]; exact ⟨a1, fun z => n1 z.symm⟩, by rw [wo_b]; exact ⟨a2, fun z => n2 z.symm⟩, a3, a4, a5, ?_⟩
        rw [wo_c F (2 ^ a), wo_c (wo F (2 ^ y.1)) (2 ^ a)]
        exact q
      · right
        refine ⟨x, y :: l', q1, MT_swap ⟨a1, a2, a3, a4, a5, q2⟩, fun th => ?_, ?_⟩
        · rw [val, q4, val, val, val, Nat.or_assoc, Nat.or_assoc, Nat.or_comm (vb (pcn s) y)]
        · rw [un, q5, un, un, un]
          rw [wo_c (wo (wo F (2 ^ y.1)) (2 ^ y.2.1)) (2 ^ x.1), wo_c (wo F (2 ^ y.1)) (2 ^ y.2.1), wo_c F (2 ^ y.1), wo_c (wo (wo F (2 ^ x.2.1)) (2 ^ y.1)) (2 ^ y.2.1), wo_c (wo F (2 ^ x.2.1)) (2 ^ y.1), wo_c F (2 ^ x.2.1)]
theorem prm_bit (hs : s < 16) {x y : Nat} (hy : y < S 0 0) : (prm S s X x).testBit y = true ↔ pt (pcn s) (mT S s) X x y := by
  unfold prm
  rw [mskn_bit, decide_eq_true hy, Bool.true_and, Bool.or_eq_true]
  have e : ∀ a b, (!decide (gn S s X a b = 0)) = true ↔ ∃ i, i < pcn s ∧ mT S s X a b i = true := by
    intro a b
    rw [Bool.not_eq_true', decide_eq_false_iff_not]
    constructor
    · intro q
      obtain ⟨i, hi⟩ := Nat.exists_testBit_of_ne_zero q
      exact ⟨i, (gn_bit hs).mp hi⟩
    · rintro ⟨i, hi⟩ q
      have := (gn_bit hs).mpr hi
      rw [q, Nat.zero_testBit] at this
      cases this
  rw [e, e]
  unfold pt
  constructor
  · rintro (⟨i, h1, h2⟩ | ⟨i, h1, h2⟩)
    · exact ⟨i, h1, Or.inl h2⟩
    · exact ⟨i, h1, Or.inr h2⟩
  · rintro ⟨i, h1, (h2 | h2)⟩
    · exact Or.inl ⟨i, h1, h2⟩
    · exact Or.inr ⟨i, h1, h2⟩
theorem prm_lt (hn : S 0 0 ≤ 6) {x : Nat} : prm S s X x < 64 := Nat.lt_of_lt_of_le (mskn_lt _ _) (Nat.pow_le_pow_right (by decide) hn)
theorem chs_lt {a b : Nat} (hb : b < S 0 0) (hbd : S 0 0 * pcn s ≤ 12) : gn S s X a b * 2 ^ (b * pcn s) < 4096 := by
  have h1 := gn_lt (S := S) (s := s) (X := X) (a := a) (b := b)
  have h2 : gn S s X a b * 2 ^ (b * pcn s) < 2 ^ pcn s * 2 ^ (b * pcn s) := Nat.mul_lt_mul_of_pos_right h1 (Nat.two_pow_pos _)
  rw [← Nat.pow_add] at h2
  have h3 : (b + 1) * pcn s ≤ S 0 0 * pcn s := Nat.mul_le_mul_right _ hb
  rw [Nat.succ_mul] at h3
  have h4 : 2 ^ (pcn s + b * pcn s) ≤ 2 ^ 12 := Nat.pow_le_pow_right (by decide) (by omega)
  omega
set_option maxHeartbeats 2000000 in
theorem PU_all (hW : WF S) (hs : s < 16) (hb : S 0 0 * pcn s ≤ 12) (hh : h < 12) (hIE : IEc S s h) : ∀ k F I th, pcn F = k → sub F (aln S) → I < 64 → (∀ x, I.testBit x = true → x < S 0 0 ∧ F.testBit x = false) → sub th (fl S s) → PUc S s h X F I th := by
  have w1 := hW.1
  have fl4 := fl_lt hb
  obtain ⟨al1, al2⟩ := pcn_al (S 0 0) w1
  have p16' := p16 hs
  intro k
  induction k using Nat.strongRecOn with
  | _ k ih =>
  intro F I th hk hF hI hIF hth lx xs M hinv hG
  have hF64 : F < 64 := Nat.lt_of_le_of_lt (sub_le hF) al2
  have hth4 : th < 4096 := Nat.lt_of_le_of_lt (sub_le hth) fl4
  have hE := hinv.1
  have e1 := hE.1
  have e2 := hE.2.1
  have pF := pcn_64 F hF64
  have lack := fun d Q => c_X4_lacking (d := d) (Q := Q) (lx := lx) (xs := xs) (X := th) hE hb
  have lkl : lk (fl S s) th ≤ 12 := by
    unfold lk pcn
    exact Nat.le_trans List.countP_le_length (by rw [List.length_range]; exact Nat.le_refl _)
  have hmul : h * (S 0 0 / 2) ≤ 12 * 3 := Nat.mul_le_mul (by omega) (by omega)
  have n2 : ¬ nI 2 = 0 := by decide
  have d1 : nI (pcn F) / nI 2 = nI (pcn F / 2) := i_div (by omega) (by decide) (by decide)
  have d2 : nI (S 0 0) / nI 2 = nI (S 0 0 / 2) := i_div (by omega) (by decide) (by decide)
  -- up to the first test
  have st0 : ∀ D Q, Go (D + 2) 102 0 [some (.ref 35), some (.int (nI (h + 1))), some (.int (nI F)), some (.int (nI I)), some (.int (nI th)), none, none, none, none, none, none] [] (HP lx xs M) Q = if pcn F / 2 + h * (S 0 0 / 2) < lk (fl S s) th then Q (some (.int (nI 0))) (HP lx xs M) else Go (D + 2) 102 32 [some (.ref 35), some (.int (nI (h + 1))), some (.int (nI F)), some (.int (nI I)), some (.int (nI th)), some (.int (nI (pcn F / 2 + h * (S 0 0 / 2)))), none, none, none, none, none] [] (HP lx xs M) Q := by
    intro D Q
    simp (disch := omega) only [s_102_0, s_102_1, s_102_4, s_102_5, s_102_6, s_102_7, s_102_8, s_102_9, s_102_10, s_102_13, s_102_14, s_102_15, s_102_16, s_102_17, s_102_19, s_102_20, s_102_22, s_102_25, s_102_27, s_102_30, s_102_31_0, s_102_31_1, sb_102_31, c_bitCount, ap_some, n2, not_false_eq_true, true_and, d1, i_sub, Nat.add_sub_cancel, e1, d2, i_mul, i_add, lack, i_lt]
  by_cases hpr : pcn F / 2 + h * (S 0 0 / 2) < lk (fl S s) th
  · refine ⟨M, false, hinv, frS_rf _ M, fun q => (by cases q), ?_, fun D Q hD => ?_⟩
    · rintro ⟨l, hl, -, hR⟩
      have := lk_Gd w1 hF64 hl hR
      omega
    · obtain ⟨D', rfl⟩ : ∃ D', D = D' + 2 := ⟨D - 2, by omega⟩
      rw [st0, if_pos hpr]
      rfl
  · by_cases hF0 : F = 0
    · subst hF0
      obtain ⟨M1, b, r1, r2, r3, r4⟩ := hIE lx xs M th hinv hth
      refine ⟨M1, b, r1, r2, fun q => ⟨[], trivial, r3.mp q⟩, ?_, fun D Q hD => ?_⟩
      · rintro ⟨l, hl, -, hR⟩
        rw [MT_nil0 l hl] at hR
        exact r3.mpr hR
      · obtain ⟨D', rfl⟩ : ∃ D', D = D' + 2 := ⟨D - 2, by omega⟩
        have r5 := fun Q => r4 (D' + 1) Q (by omega)
        rw [st0, if_neg hpr, show D' + 2 = D' + 1 + 1 from rfl]
        simp (disch := omega) only [s_102_32, s_102_33, s_102_36, s_102_37, s_102_38, s_102_39, s_102_40, s_102_42, s_102_45_0, s_102_45_1, sb_102_45, ↓reduceIte, n0_0, i_sub, Nat.add_sub_cancel, r5, ap_some]
    · obtain ⟨a, a6, aF, alow⟩ := fof_ex F hF64 hF0
      have an : a < S 0 0 := by have := hF a aF; unfold aln at this; exact tp_bit.mp this
      have fo := fun d Q => c_X4_firstOf (d := d) (Q := Q) (lx := lx) (xs := xs) (M := M) hF64 a6 aF alow
      have pFa := pcn_wo6 F hF64 a a6 aF
      have F0 : (F = 0) = False := eq_false hF0
      -- the loop over the other child
      have lp : ∀ m b M, b + m = S 0 0 → a < b → INVs M S s → GR M S s (h + 1) X → ∃ M1 r, INVs M1 S s ∧ frS (h + 1) M M1 ∧ (r = true → Snd S s X h F th) ∧ ((∃ l x, MTS S s X F (x :: l) ∧ ((x.1 = a ∧ b ≤ x.2.1) ∨ (x.2.1 = a ∧ b ≤ x.1)) ∧ mxl S s X (I ||| un F (x :: l)) ∧ RH S s h (val (pcn s) th (x :: l))) → r = true) ∧ (r = true → ∀ D Q o9 o10, 20 * h + 7 + 2 * pcn F ≤ D → Go (D + 1) 102 64 [some (.ref 35), some (.int (nI (h + 1))), some (.int (nI F)), some (.int (nI I)), some (.int (nI th)), some (.int (nI (pcn F / 2 + h * (S 0 0 / 2)))), some (.int (nI a)), some (.int (nI ((h + 1) * 6))), some (.int (nI b)), o9, o10] [] (HP lx xs M) Q = Q (some (.int (nI 1))) (HP lx xs M1)) ∧ (r = false → ∀ D Q o9 o10, 20 * h + 7 + 2 * pcn F ≤ D → ∃ o9' o10', Go (D + 1) 102 64 [some (.ref 35), some (.int (nI (h + 1))), some (.int (nI F)), some (.int (nI I)), some (.int (nI th)), some (.int (nI (pcn F / 2 + h * (S 0 0 / 2)))), some (.int (nI a)), some (.int (nI ((h + 1) * 6))), some (.int (nI b)), o9, o10] [] (HP lx xs M) Q = Go (D + 1) 102 203 [some (.ref 35), some (.int (nI (h + 1))), some (.int (nI F)), some (.int (nI I)), some (.int (nI th)), some (.int (nI (pcn F / 2 + h * (S 0 0 / 2)))), some (.int (nI a)), some (.int (nI ((h + 1) * 6))), some (.int (nI (S 0 0))), o9', o10'] [] (HP lx xs M1) Q) := by
        intro m
        induction m with
        | zero =>
          intro b M hbm hab hinv hG
          have e : b = S 0 0 := by omega
          subst e
          refine ⟨M, false, hinv, frS_rf _ M, fun q => (by cases q), ?_, fun q => (by cases q), fun _ D Q o9 o10 hD => ⟨o9, o10, ?_⟩⟩
          · rintro ⟨l, x, hl, hx, -⟩
            have q1 := hF _ hl.1
            have q2 := hF _ hl.2.1
            unfold aln at q1 q2
            rw [tp_bit] at q1 q2
            omega
          · rw [s_102_64]
            simp (disch := omega) only [s_102_66, s_102_67, s_102_70, ↓reduceIte, hinv.1.1, i_lt, Nat.lt_irrefl]
        | succ m ihm =>
          intro b M hbm hab hinv hG
          have hbn : b < S 0 0 := by omega
          have b6 : b < 6 := by omega
          have e1 := hinv.1.1
          have e2 := hinv.1.2.1
          have ga := hG.2 a an
          have pl := prm_lt (S := S) (s := s) (X := X) w1 (x := a)
          have hand : F &&& prm S s X a < 2147483648 := Nat.lt_of_le_of_lt Nat.and_le_left (by omega)
          by_cases hpt : F.testBit b = true ∧ pt (pcn s) (mT S s) X a b
          · have hbit : (F &&& prm S s X a).testBit b = true := by rw [Nat.testBit_and, hpt.1, (prm_bit hs hbn).mpr hpt.2]; rfl
            have pFb := pcn_wo6 (wo F (2 ^ a)) (wo_64 hF64) b b6 (by rw [wo_b]; exact ⟨hpt.1, by omega⟩)
            have subF : sub (wo (wo F (2 ^ a)) (2 ^ b)) (aln S) := sub_tr (wo_sub _ _) (sub_tr (wo_sub _ _) hF)
            have F'64 : wo (wo F (2 ^ a)) (2 ^ b) < 64 := wo_64 (wo_64 hF64)
            have IF' : ∀ x, I.testBit x = true → x < S 0 0 ∧ (wo (wo F (2 ^ a)) (2 ^ b)).testBit x = false := fun x hx => ⟨(hIF x hx).1, by
              rw [← Bool.not_eq_true, wo_b, wo_b]
              rintro ⟨⟨q, -⟩, -⟩
              rw [(hIF x hx).2] at q
              cases q⟩
            have c1l := chs_lt (S := S) (s := s) (X := X) (a := a) (b := b) hbn hb
            have c2l := chs_lt (S := S) (s := s) (X := X) (a := b) (b := a) an hb
            have bw := cw_lt (s := s) hbn hb
            have aw := cw_lt (s := s) an hb
            -- each chance
            have pus : ∀ p q, q < S 0 0 → ∀ j, (gn S s X p q * 2 ^ (q * pcn s)).testBit j = true → PUc S s h X (wo (wo F (2 ^ a)) (2 ^ b)) I (th ||| 2 ^ j) := by
              intro p q hq j hj
              refine ih (pcn (wo (wo F (2 ^ a)) (2 ^ b))) (by omega) _ I _ rfl subF hI IF' (fun x hx => ?_)
              rw [Nat.testBit_or, Bool.or_eq_true] at hx
              rcases hx with z | z
              · exact hth x z
              · rw [bit_p z]
                rw [shl_bit, Bool.and_eq_true, decide_eq_true_eq] at hj
                have gi := (gn_bit hs).mp hj.2
                unfold fl
                rw [tp_bit]
                have := pos_lt hq gi.1
                omega
            obtain ⟨M1, x1, r1, r2, r3, r4, r5⟩ := c_X4_pairTaught (lx := lx) (xs := xs) (S := S) (s := s) (h := h) (X := X) (F := wo (wo F (2 ^ a)) (2 ^ b)) (I := I) (th := th) hb c1l F'64 hh (pus a b hbn) 12 0 M (by omega) hinv hG
            have snd1 : ∀ p q, (p = a ∧ q = b) ∨ (p = b ∧ q = a) → (∃ j, (gn S s X p q * 2 ^ (q * pcn s)).testBit j = true ∧ Snd S s X h (wo (wo F (2 ^ a)) (2 ^ b)) (th ||| 2 ^ j)) → Snd S s X h F th := by
              rintro p q hpq ⟨j, hj, l, hl, hR⟩
              rw [shl_bit, Bool.and_eq_true, decide_eq_true_eq] at hj
              have gi := (gn_bit hs).mp hj.2
              refine ⟨(p, q, j - q * pcn s) :: l, ?_, ?_⟩
              · rcases hpq with ⟨rfl, rfl⟩ | ⟨rfl, rfl⟩
                · exact ⟨aF, hpt.1, by dsimp only; omega, gi.1, gi.2, hl⟩
                · exact ⟨hpt.1, aF, by dsimp only; omega, gi.1, gi.2, by dsimp only; rw [wo_c]; exact hl⟩
              · rw [val]
                unfold vb
                dsimp only
                rw [show q * pcn s + (j - q * pcn s) = j by omega]
                exact hR
            have gd1 : ∀ p q, (p = a ∧ q = b) ∨ (p = b ∧ q = a) → (∃ l i, MTS S s X F ((p, q, i) :: l) ∧ mxl S s X (I ||| un F ((p, q, i) :: l)) ∧ RH S s h (val (pcn s) th ((p, q, i) :: l))) → ∃ k, 0 ≤ k ∧ (gn S s X p q * 2 ^ (q * pcn s)).testBit k = true ∧ Gd S s X h (wo (wo F (2 ^ a)) (2 ^ b)) I (th ||| 2 ^ k) := by
              rintro p q hpq ⟨l, i, hl, hm, hR⟩
              obtain ⟨b1, b2, b3, b4, b5, b6'⟩ := hl
              dsimp only at b4 b5 b6'
              have eF : wo (wo F (2 ^ p)) (2 ^ q) = wo (wo F (2 ^ a)) (2 ^ b) := by
                rcases hpq with ⟨rfl, rfl⟩ | ⟨rfl, rfl⟩
                · rfl
                · exact wo_c _ _ _
              rw [un] at hm
              dsimp only at hm
              rw [eF] at b6' hm
              refine ⟨q * pcn s + i, Nat.zero_le _, ?_, l, b6', hm, hR⟩
              rw [shl_bit, decide_eq_true (by omega), Bool.true_and, Nat.add_sub_cancel_left]
              exact (gn_bit hs).mpr ⟨b4, b5⟩
            have g39a := hG.1 a b an hbn
            have g39b : M1 39 (((h + 1) * 6 + b) * 6 + a) = nI (gn S s X b a) := (frS_GR r2 hG).1 b a hbn an
            have e21 : M1 35 7 = nI (pcn s) := r1.1.2.1
            have gl1 := gn_lt (S := S) (s := s) (X := X) (a := a) (b := b)
            have gl2 := gn_lt (S := S) (s := s) (X := X) (a := b) (b := a)
            cases x1 with
            | true =>
              refine ⟨M1, true, r1, r2, fun _ => snd1 a b (Or.inl ⟨rfl, rfl⟩) (r3 rfl), fun _ => rfl, fun _ D Q o9 o10 hD => ?_, fun q => (by cases q)⟩
              have r6 := fun Q => r5 D Q (by omega)
              have pt0 : ∀ Q, Go D 103 0 [some (.ref 35), some (.int (nI (h + 1))), some (.int (nI (wo (wo F (2 ^ a)) (2 ^ b)))), some (.int (nI I)), some (.int (nI th)), some (.int (nI (gn S s X a b * 2 ^ (b * pcn s)))), none] [] (HP lx xs M) Q = Q (some (.int (bI true))) (HP lx xs M1) := fun Q => by
                simp only [s_103_0, s_103_1]
                exact r6 Q
              rw [s_102_64]
              simp (disch := omega) only [s_102_66, s_102_67, s_102_70, s_102_73, s_102_74, s_102_75, s_102_78, s_102_80, s_102_82, s_102_83, s_102_84, s_102_85, s_102_87, s_102_90, s_102_93, s_102_96, s_102_97, s_102_98, s_102_100, s_102_101, s_102_102, s_102_104, s_102_105, s_102_106, s_102_107, s_102_108, s_102_109, s_102_111, s_102_112, s_102_115, s_102_117, s_102_119, s_102_120, s_102_122, s_102_123, s_102_125, s_102_126, s_102_127, s_102_129, s_102_130, s_102_131, s_102_133, s_102_134, s_102_136, s_102_138, s_102_140, s_102_141, s_102_144, s_102_145, s_102_146, s_102_149, s_102_152, s_102_153_0, s_102_153_1, sb_102_153, ↓reduceIte, e1, i_lt, hbn, i_add, i_in, i_cl, true_and, ga, i_and, c_X6_has, hbit, ap_some, bI_0, Bool.true_eq_false, i_1s, i_or, i_wo, wo_or, i_mul, g39a, e2, i_shl, pt0]
            | false =>
              obtain ⟨M2, x2, s1, s2, s3, s4, s5⟩ := c_X4_pairTaught (lx := lx) (xs := xs) (S := S) (s := s) (h := h) (X := X) (F := wo (wo F (2 ^ a)) (2 ^ b)) (I := I) (th := th) hb c2l F'64 hh (pus b a an) 12 0 M1 (by omega) r1 (frS_GR r2 hG)
              have stp1 : ∀ D Q o9 o10, 20 * h + 7 + 2 * pcn F ≤ D → Go (D + 1) 102 64 [some (.ref 35), some (.int (nI (h + 1))), some (.int (nI F)), some (.int (nI I)), some (.int (nI th)), some (.int (nI (pcn F / 2 + h * (S 0 0 / 2)))), some (.int (nI a)), some (.int (nI ((h + 1) * 6))), some (.int (nI b)), o9, o10] [] (HP lx xs M) Q = if x2 = true then Q (some (.int (nI 1))) (HP lx xs M2) else Go (D + 1) 102 64 [some (.ref 35), some (.int (nI (h + 1))), some (.int (nI F)), some (.int (nI I)), some (.int (nI th)), some (.int (nI (pcn F / 2 + h * (S 0 0 / 2)))), some (.int (nI a)), some (.int (nI ((h + 1) * 6))), some (.int (nI (b + 1))), some (.int (nI (wo (wo F (2 ^ a)) (2 ^ b)))), some (.int (nI (gn S s X b a)))] [] (HP lx xs M2) Q := by
                intro D Q o9 o10 hD
                have r6 := fun Q => r5 D Q (by omega)
                have s6 := fun Q => s5 D Q (by omega)
                have pt0 : ∀ Q, Go D 103 0 [some (.ref 35), some (.int (nI (h + 1))), some (.int (nI (wo (wo F (2 ^ a)) (2 ^ b)))), some (.int (nI I)), some (.int (nI th)), some (.int (nI (gn S s X a b * 2 ^ (b * pcn s)))), none] [] (HP lx xs M) Q = Q (some (.int (bI false))) (HP lx xs M1) := fun Q => by
                  simp only [s_103_0, s_103_1]
                  exact r6 Q
                have pt1 : ∀ Q, Go D 103 0 [some (.ref 35), some (.int (nI (h + 1))), some (.int (nI (wo (wo F (2 ^ a)) (2 ^ b)))), some (.int (nI I)), some (.int (nI th)), some (.int (nI (gn S s X b a * 2 ^ (a * pcn s)))), none] [] (HP lx xs M1) Q = Q (some (.int (bI x2))) (HP lx xs M2) := fun Q => by
                  simp only [s_103_0, s_103_1]
                  exact s6 Q
                rw [s_102_64]
                simp (disch := omega) only [s_102_66, s_102_67, s_102_70, s_102_73, s_102_74, s_102_75, s_102_78, s_102_80, s_102_82, s_102_83, s_102_84, s_102_85, s_102_87, s_102_90, s_102_93, s_102_96, s_102_97, s_102_98, s_102_100, s_102_101, s_102_102, s_102_104, s_102_105, s_102_106, s_102_107, s_102_108, s_102_109, s_102_111, s_102_112, s_102_115, s_102_117, s_102_119, s_102_120, s_102_122, s_102_123, s_102_125, s_102_126, s_102_127, s_102_129, s_102_130, s_102_131, s_102_133, s_102_134, s_102_136, s_102_138, s_102_140, s_102_141, s_102_144, s_102_145, s_102_146, s_102_149, s_102_152, s_102_153_0, s_102_153_1, sb_102_153, s_102_154, s_102_155, s_102_158, s_102_160, s_102_162, s_102_163, s_102_165, s_102_166, s_102_168, s_102_169, s_102_170, s_102_172, s_102_173, s_102_174, s_102_176, s_102_177, s_102_179, s_102_181, s_102_183, s_102_184, s_102_187, s_102_188, s_102_189, s_102_192, s_102_195, s_102_196_0, s_102_196_1, sb_102_196, s_102_197, s_102_200, ↓reduceIte, e1, i_lt, hbn, i_add, i_in, i_cl, true_and, ga, i_and, c_X6_has, hbit, ap_some, bI_0, Bool.true_eq_false, i_1s, i_or, i_wo, wo_or, i_mul, g39a, e2, i_shl, pt0, g39b, e21, pt1]
                cases x2 <;> simp
              cases x2 with
              | true =>
                refine ⟨M2, true, s1, frS_tr r2 s2, fun _ => snd1 b a (Or.inr ⟨rfl, rfl⟩) (s3 rfl), fun _ => rfl, fun _ D Q o9 o10 hD => ?_, fun q => (by cases q)⟩
                rw [stp1 D Q o9 o10 hD, if_pos rfl]
              | false =>
                obtain ⟨M3, r, t1, t2, t3, t4, t5, t6⟩ := ihm (b + 1) M2 (by omega) (by omega) s1 (frS_GR s2 (frS_GR r2 hG))
                refine ⟨M3, r, t1, frS_tr r2 (frS_tr s2 t2), t3, ?_, fun q D Q o9 o10 hD => ?_, fun q D Q o9 o10 hD => ?_⟩
                · rintro ⟨l, x, hl, hx, hm, hR⟩
                  by_cases z : (x.1 = a ∧ x.2.1 = b) ∨ (x.1 = b ∧ x.2.1 = a)
                  · exfalso
                    rcases z with ⟨z1, z2⟩ | ⟨z1, z2⟩
                    · have q := r4 (gd1 a b (Or.inl ⟨rfl, rfl⟩) ⟨l, x.2.2, by rw [← z1, ← z2]; exact ⟨hl, hm, hR⟩⟩)
                      cases q
                    · have q := s4 (gd1 b a (Or.inr ⟨rfl, rfl⟩) ⟨l, x.2.2, by rw [← z1, ← z2]; exact ⟨hl, hm, hR⟩⟩)
                      cases q
                  · exact t4 ⟨l, x, hl, by omega, hm, hR⟩
                · rw [stp1 D Q o9 o10 hD, if_neg (by simp)]
                  exact t5 q D Q _ _ hD
                · obtain ⟨o9', o10', t7⟩ := t6 q D Q (some (.int (nI (wo (wo F (2 ^ a)) (2 ^ b))))) (some (.int (nI (gn S s X b a)))) hD
                  exact ⟨o9', o10', by rw [stp1 D Q o9 o10 hD, if_neg (by simp)]; exact t7⟩
          · have hbit : (F &&& prm S s X a).testBit b = false := by
              rw [← Bool.not_eq_true, Nat.testBit_and, Bool.and_eq_true, prm_bit hs hbn]
              exact hpt
            obtain ⟨M3, r, t1, t2, t3, t4, t5, t6⟩ := ihm (b + 1) M (by omega) (by omega) hinv hG
            have stp1 : ∀ D Q o9 o10, 20 * h + 7 + 2 * pcn F ≤ D → Go (D + 1) 102 64 [some (.ref 35), some (.int (nI (h + 1))), some (.int (nI F)), some (.int (nI I)), some (.int (nI th)), some (.int (nI (pcn F / 2 + h * (S 0 0 / 2)))), some (.int (nI a)), some (.int (nI ((h + 1) * 6))), some (.int (nI b)), o9, o10] [] (HP lx xs M) Q = Go (D + 1) 102 64 [some (.ref 35), some (.int (nI (h + 1))), some (.int (nI F)), some (.int (nI I)), some (.int (nI th)), some (.int (nI (pcn F / 2 + h * (S 0 0 / 2)))), some (.int (nI a)), some (.int (nI ((h + 1) * 6))), some (.int (nI (b + 1))), o9, o10] [] (HP lx xs M) Q := by
              intro D Q o9 o10 hD
              rw [s_102_64]
              simp (disch := omega) only [s_102_66, s_102_67, s_102_70, s_102_73, s_102_74, s_102_75, s_102_78, s_102_80, s_102_82, s_102_83, s_102_84, s_102_85, s_102_87, s_102_90, s_102_93, s_102_197, s_102_200, ↓reduceIte, e1, i_lt, hbn, i_add, i_in, i_cl, true_and, ga, i_and, c_X6_has, hbit, ap_some, bI_0]
            refine ⟨M3, r, t1, t2, t3, ?_, fun q D Q o9 o10 hD => by rw [stp1 D Q o9 o10 hD]; exact t5 q D Q o9 o10 hD, fun q D Q o9 o10 hD => ?_⟩
            · rintro ⟨l, x, hl, hx, hm, hR⟩
              refine t4 ⟨l, x, hl, ?_, hm, hR⟩
              have q2 := hl.2.2.2.2.1
              have q3 := hl.2.2.2.1
              by_cases z : (x.1 = a ∧ x.2.1 = b) ∨ (x.1 = b ∧ x.2.1 = a)
              · exfalso
                rcases z with ⟨z1, z2⟩ | ⟨z1, z2⟩
                · rw [z1, z2] at q2
                  exact hpt ⟨by rw [← z2]; exact hl.2.1, x.2.2, q3, Or.inl q2⟩
                · rw [z1, z2] at q2
                  exact hpt ⟨by rw [← z1]; exact hl.1, x.2.2, q3, Or.inr q2⟩
              · omega
            · obtain ⟨o9', o10', t7⟩ := t6 q D Q o9 o10 hD
              exact ⟨o9', o10', by rw [stp1 D Q o9 o10 hD]; exact t7⟩
      obtain ⟨M1, r, t1, t2, t3, t4, t5, t6⟩ := lp (S 0 0 - (a + 1)) (a + 1) M (by omega) (by omega) hinv hG
      have st1 : ∀ D Q, Go (D + 2) 102 32 [some (.ref 35), some (.int (nI (h + 1))), some (.int (nI F)), some (.int (nI I)), some (.int (nI th)), some (.int (nI (pcn F / 2 + h * (S 0 0 / 2)))), none, none, none, none, none] [] (HP lx xs M) Q = Go (D + 1 + 1) 102 64 [some (.ref 35), some (.int (nI (h + 1))), some (.int (nI F)), some (.int (nI I)), some (.int (nI th)), some (.int (nI (pcn F / 2 + h * (S 0 0 / 2)))), some (.int (nI a)), some (.int (nI ((h + 1) * 6))), some (.int (nI (a + 1))), none, none] [] (HP lx xs M) Q := by
        intro D Q
        rw [show D + 2 = D + 1 + 1 from rfl]
        simp (disch := omega) only [s_102_32, s_102_33, s_102_36, s_102_37, s_102_38, s_102_39, s_102_40, s_102_42, s_102_45_0, s_102_45_1, sb_102_45, s_102_46, s_102_47, s_102_50, s_102_52, s_102_53, s_102_55, s_102_56, s_102_58, s_102_60, s_102_61, s_102_62, ↓reduceIte, i_e0, F0, fo, ap_some, i_mul, i_add]
      -- whoever is found with a must be seen
      have gdc : Gd S s X h F I th → r = false → ∃ l, MTS S s X (wo F (2 ^ a)) l ∧ mxl S s X (I ||| un F l) ∧ RH S s h (val (pcn s) th l) := by
        rintro ⟨l, hl, hm, hR⟩ hr
        rcases MT_rm2 l F a hl aF with q | ⟨x, l', q1, q2, q4, q5⟩
        · exact ⟨l, q, hm, hR⟩
        · exfalso
          have qa : a < x.1 ∨ a < x.2.1 := by
            rcases q1 with z | z
            · right
              refine Nat.not_le.mp fun hle => ?_
              have hne := q2.2.2.1
              have := alow x.2.1 (by omega)
              rw [q2.2.1] at this
              cases this
            · left
              refine Nat.not_le.mp fun hle => ?_
              have hne := q2.2.2.1
              have := alow x.1 (by omega)
              rw [q2.1] at this
              cases this
          have := t4 ⟨l', x, q2, by
            rcases q1 with z | z
            · exact Or.inl ⟨z, by omega⟩
            · exact Or.inr ⟨z, by omega⟩, by rw [← q5]; exact hm, by rw [← q4]; exact hR⟩
          rw [hr] at this
          cases this
      cases r with
      | true =>
        refine ⟨M1, true, t1, t2, fun _ => t3 rfl, fun _ => rfl, fun D Q hD => ?_⟩
        obtain ⟨D', rfl⟩ : ∃ D', D = D' + 2 := ⟨D - 2, by omega⟩
        rw [st0, if_neg hpr, st1, t5 rfl (D' + 1) Q none none (by omega)]
        rfl
      | false =>
        have ga : M1 40 ((h + 1) * 6 + a) = nI (prm S s X a) := (frS_GR t2 hG).2 a an
        have pl := prm_lt (S := S) (s := s) (X := X) w1 (x := a)
        have hand : prm S s X a &&& I < 2147483648 := Nat.lt_of_le_of_lt Nat.and_le_left (by omega)
        by_cases hz : prm S s X a &&& I = 0
        · have hI2 : I ||| 2 ^ a < 64 := or_lt (n := 6) hI a6
          obtain ⟨M2, b2, u1, u2, u3, u4, u5⟩ := ih (pcn (wo F (2 ^ a))) (by omega) (wo F (2 ^ a)) (I ||| 2 ^ a) th rfl (sub_tr (wo_sub _ _) hF) hI2 (fun x hx => by
            rw [Nat.testBit_or, Bool.or_eq_true] at hx
            by_cases z : x = a
            · subst z
              refine ⟨an, ?_⟩
              rw [← Bool.not_eq_true, wo_b]
              exact fun q => q.2 rfl
            · rcases hx with q | q
              · refine ⟨(hIF x q).1, ?_⟩
                rw [← Bool.not_eq_true, wo_b]
                rintro ⟨q1, -⟩
                rw [(hIF x q).2] at q1
                cases q1
              · exact absurd (bit_p q) z) hth lx xs M1 t1 (frS_GR t2 hG)
          refine ⟨M2, b2, u1, frS_tr t2 u2, fun q => ?_, fun q => ?_, fun D Q hD => ?_⟩
          · obtain ⟨l, hl, hR⟩ := u3 q
            exact ⟨l, MT_F l _ _ (wo_sub _ _) hl, hR⟩
          · obtain ⟨l, hl, hm, hR⟩ := gdc q rfl
            obtain ⟨v1, v2⟩ := un_rm l F hl aF
            refine u4 ⟨l, hl, ?_, hR⟩
            rw [v2, show (I ||| 2 ^ a) ||| wo (un F l) (2 ^ a) = I ||| un F l from Nat.eq_of_testBit_eq fun i => by
              rw [Nat.testBit_or, Nat.testBit_or, Nat.testBit_or, wo_bit]
              by_cases z : i = a
              · subst z; rw [Nat.testBit_two_pow_self, v1]; simp
              · rw [Nat.testBit_two_pow_of_ne (fun q => z q.symm)]; simp]
            exact hm
          · obtain ⟨D', rfl⟩ : ∃ D', D = D' + 2 := ⟨D - 2, by omega⟩
            obtain ⟨o9', o10', t7⟩ := t6 rfl (D' + 1) Q none none (by omega)
            have u6 := fun Q => u5 (D' + 1) Q (by omega)
            rw [st0, if_neg hpr, st1, t7]
            simp (disch := omega) only [s_102_203, s_102_204, s_102_207, s_102_209, s_102_211, s_102_212, s_102_213, s_102_214, s_102_215, s_102_218, s_102_219_0, s_102_219_1, sb_102_219, s_102_220, s_102_221, s_102_222, s_102_223, s_102_224, s_102_226, s_102_227, s_102_228, s_102_229, s_102_230, s_102_231, s_102_232, s_102_234, s_102_235, s_102_236, s_102_238, s_102_241_0, s_102_241_1, sb_102_241, ↓reduceIte, i_add, i_in, i_cl, true_and, ga, i_and, i_e0, hz, i_1s, i_wo, i_or, u6, ap_some]
        · refine ⟨M1, false, t1, t2, fun q => (by cases q), fun q => ?_, fun D Q hD => ?_⟩
          · exfalso
            obtain ⟨l, hl, hm, hR⟩ := gdc q rfl
            obtain ⟨v1, -⟩ := un_rm l F hl aF
            obtain ⟨c, hc⟩ := Nat.exists_testBit_of_ne_zero hz
            rw [Nat.testBit_and, Bool.and_eq_true] at hc
            have hcn := (hIF c hc.2).1
            refine hm a c (by rw [Nat.testBit_or, v1, Bool.or_true]) (by rw [Nat.testBit_or, hc.2]; rfl) (fun z => ?_) ((prm_bit hs hcn).mp hc.1)
            have := (hIF c hc.2).2
            rw [← z, aF] at this
            cases this
          · obtain ⟨D', rfl⟩ : ∃ D', D = D' + 2 := ⟨D - 2, by omega⟩
            obtain ⟨o9', o10', t7⟩ := t6 rfl (D' + 1) Q none none (by omega)
            rw [st0, if_neg hpr, st1, t7]
            simp (disch := omega) only [s_102_203, s_102_204, s_102_207, s_102_209, s_102_211, s_102_212, s_102_213, s_102_214, s_102_215, s_102_218, s_102_219_0, s_102_219_1, sb_102_219, ↓reduceIte, i_add, i_in, i_cl, true_and, ga, i_and, i_e0, hz]
            rfl
theorem frS_G {h : Nat} {M M1 M2 : Nat → Nat → Int32} (a : frG h M M1) (b : frS h M1 M2) : frS (h + 1) M M2 := by
  refine ⟨fun c h1 h2 h3 => (b.1 c h1 h2 h3).trans (a.1 c h1 h2), fun j hj => ?_, fun j hj => ?_⟩
  · rw [b.2.1 j (by omega), a.2.1 j (by omega)]
  · rw [b.2.2 j (by omega), a.2.2 j (by omega)]
/-- isEnough, one run of it -/
theorem ie_run {lx : Nat} {xs : Nat → Int32} {M M1 M2 : Nat → Nat → Int32} {b : Bool} {D v : Nat} {Q : Option Value → ex_H → Prop} (hn : S 0 0 ≤ 6) (hh : h < 12) (hX4 : X < 4096) (hv12 : v ≤ 12) (e1 : M 35 6 = nI (S 0 0)) (e3 : M 35 8 = nI (fl S s)) (hf' : (nI X = nI (fl S s)) = False) (v2 : M 41 X = nI v) (hv : v < h + 1) (lkl : lk (fl S s) X ≤ 12) (hl : ¬ (h + 1) * (S 0 0 / 2) < lk (fl S s) X) (lack : ∀ d Q, Go (d + 1) 99 0 [some (.ref 35), some (.int (nI X))] [] (HP lx xs M) Q = Q (some (.int (nI (lk (fl S s) X)))) (HP lx xs M)) (r4 : ∀ Q, Go (D + 2) 101 0 [some (.ref 35), some (.int (nI (h + 1))), some (.int (nI X)), none, none, none, none, none] [] (HP lx xs M) Q = Q none (HP lx xs M1)) (e1' : M1 35 6 = nI (S 0 0)) (s6 : ∀ Q, Go (D + 2) 102 0 [some (.ref 35), some (.int (nI (h + 1))), some (.int (nI (aln S))), some (.int (nI 0)), some (.int (nI X)), none, none, none, none, none, none] [] (HP lx xs M1) Q = Q (some (.int (bI b))) (HP lx xs M2)) : Go (D + 2 + 1) 100 0 [some (.ref 35), some (.int (nI (h + 1))), some (.int (nI X))] [] (HP lx xs M) Q = if b = true then Q (some (.int (nI 1))) (HP lx xs M2) else Q (some (.int (nI 0))) (HP lx xs (up M2 41 X (nI (h + 1)))) := by
  have hmul : (h + 1) * (S 0 0 / 2) ≤ 12 * 3 := Nat.mul_le_mul (by omega) (by omega)
  have n2 : ¬ nI 2 = 0 := by decide
  have d2 : nI (S 0 0) / nI 2 = nI (S 0 0 / 2) := i_div (by omega) (by decide) (by decide)
  have pw : 1 ≤ 2 ^ S 0 0 := Nat.two_pow_pos _
  have ea : nI (2 ^ S 0 0 - 1) = nI (aln S) := rfl
  have nb := nb_126 (h + 1) (by omega)
  generalize hm : (h + 1) * (S 0 0 / 2) = mm at *
  cases b with
  | true =>
    rw [if_pos rfl]
    simp (disch := omega) only [s_100_0, s_100_1, s_100_2, s_100_5, s_100_8, s_100_9_0, s_100_9_1, sb_100_9, s_100_10, s_100_11, s_100_12, s_100_15, s_100_16, s_100_17, s_100_20, s_100_21, s_100_22, s_100_25, s_100_26, s_100_27, s_100_30, s_100_31, s_100_32, s_100_33, s_100_36, s_100_37_0, s_100_37_1, sb_100_37, s_100_38, s_100_39, s_100_40, s_100_41, s_100_44, s_100_45, s_100_46, s_100_47, s_100_48, s_100_51, s_100_52, s_100_53, s_100_54, s_100_55, s_100_56, s_100_59, s_100_62, s_100_63_0, s_100_63_1, sb_100_63, ↓reduceIte, e3, hf', i_in, i_cl, true_and, v2, i_lt, hv, lack, ap_some, ap_none, e1, n2, not_false_eq_true, d2, i_mul, hm, hl, r4, e1', i_1s, i_sub, ea, s6, bI_0, Bool.true_eq_false]
  | false =>
    rw [if_neg (by simp)]
    simp (disch := omega) only [s_100_0, s_100_1, s_100_2, s_100_5, s_100_8, s_100_9_0, s_100_9_1, sb_100_9, s_100_10, s_100_11, s_100_12, s_100_15, s_100_16, s_100_17, s_100_20, s_100_21, s_100_22, s_100_25, s_100_26, s_100_27, s_100_30, s_100_31, s_100_32, s_100_33, s_100_36, s_100_37_0, s_100_37_1, sb_100_37, s_100_38, s_100_39, s_100_40, s_100_41, s_100_44, s_100_45, s_100_46, s_100_47, s_100_48, s_100_51, s_100_52, s_100_53, s_100_54, s_100_55, s_100_56, s_100_59, s_100_62, s_100_63_0, s_100_63_1, sb_100_63, s_100_64, s_100_65, s_100_68, s_100_69, s_100_70, s_100_71, s_100_72, s_100_73_0, s_100_73_1, sb_100_73, ↓reduceIte, e3, hf', i_in, i_cl, true_and, v2, i_lt, hv, lack, ap_some, ap_none, e1, n2, not_false_eq_true, d2, i_mul, hm, hl, r4, e1', i_1s, i_sub, ea, s6, bI_0, nb.1, nb.2]
set_option maxHeartbeats 2000000 in
/-- isEnough, by ever more hours -/
theorem IE_all (hW : WF S) (hs : s < 16) (hb : S 0 0 * pcn s ≤ 12) : ∀ h, h ≤ 12 → IEc S s h := by
  have w1 := hW.1
  have fl4 := fl_lt hb
  obtain ⟨al1, al2⟩ := pcn_al (S 0 0) w1
  have al3 : pcn (aln S) = S 0 0 := al1
  intro h
  induction h with
  | zero =>
    intro _ lx xs M X hinv hX
    have e3 := hinv.1.2.2.1
    have hX4 : X < 4096 := Nat.lt_of_le_of_lt (sub_le hX) fl4
    by_cases hf : X = fl S s
    · refine ⟨M, true, hinv, frS_rf _ M, ⟨fun _ => hf, fun _ => rfl⟩, fun D Q hD => ?_⟩
      rw [hf]
      simp (disch := omega) only [s_100_0, s_100_1, s_100_2, s_100_5, s_100_8, s_100_9_0, s_100_9_1, sb_100_9, s_100_10, s_100_11, s_100_12, s_100_15, s_100_16, s_100_17, s_100_20, s_100_21, s_100_22, s_100_25, s_100_26, s_100_27, s_100_30, s_100_31, s_100_32, s_100_33, s_100_36, s_100_37_0, s_100_37_1, sb_100_37, s_100_38, s_100_39, s_100_40, s_100_41, s_100_44, s_100_45, s_100_46, s_100_47, s_100_48, s_100_51, s_100_52, s_100_53, s_100_54, s_100_55, s_100_56, s_100_59, s_100_62, s_100_63_0, s_100_63_1, sb_100_63, s_100_64, s_100_65, s_100_68, s_100_69, s_100_70, s_100_71, s_100_72, s_100_73_0, s_100_73_1, sb_100_73, ↓reduceIte, e3]
      rfl
    · obtain ⟨v, v1, v2, v3⟩ := hinv.2 X hX hf
      have hf' : (nI X = nI (fl S s)) = False := by rw [i_eq (by omega) (by omega)]; exact eq_false hf
      have hlt : ¬ v < 0 := by omega
      refine ⟨M, false, hinv, frS_rf _ M, ⟨fun q => (by cases q), fun q => absurd q hf⟩, fun D Q hD => ?_⟩
      simp (disch := omega) only [s_100_0, s_100_1, s_100_2, s_100_5, s_100_8, s_100_9_0, s_100_9_1, sb_100_9, s_100_10, s_100_11, s_100_12, s_100_15, s_100_16, s_100_17, s_100_20, s_100_21, s_100_22, s_100_25, s_100_26, s_100_27, s_100_30, s_100_31, s_100_32, s_100_33, s_100_36, s_100_37_0, s_100_37_1, sb_100_37, s_100_38, s_100_39, s_100_40, s_100_41, s_100_44, s_100_45, s_100_46, s_100_47, s_100_48, s_100_51, s_100_52, s_100_53, s_100_54, s_100_55, s_100_56, s_100_59, s_100_62, s_100_63_0, s_100_63_1, sb_100_63, s_100_64, s_100_65, s_100_68, s_100_69, s_100_70, s_100_71, s_100_72, s_100_73_0, s_100_73_1, sb_100_73, ↓reduceIte, e3, hf', i_in, i_cl, true_and, v2, i_lt, hlt]
      rfl
  | succ h ih =>
    intro hh lx xs M X hinv hX
    have e1 := hinv.1.1
    have e3 := hinv.1.2.2.1
    have hX4 : X < 4096 := Nat.lt_of_le_of_lt (sub_le hX) fl4
    by_cases hf : X = fl S s
    · refine ⟨M, true, hinv, frS_rf _ M, ⟨fun _ => Rh_le (h := 0) hf (h + 1) (by omega), fun _ => rfl⟩, fun D Q hD => ?_⟩
      rw [hf]
      simp (disch := omega) only [s_100_0, s_100_1, s_100_2, s_100_5, s_100_8, s_100_9_0, s_100_9_1, sb_100_9, s_100_10, s_100_11, s_100_12, s_100_15, s_100_16, s_100_17, s_100_20, s_100_21, s_100_22, s_100_25, s_100_26, s_100_27, s_100_30, s_100_31, s_100_32, s_100_33, s_100_36, s_100_37_0, s_100_37_1, sb_100_37, s_100_38, s_100_39, s_100_40, s_100_41, s_100_44, s_100_45, s_100_46, s_100_47, s_100_48, s_100_51, s_100_52, s_100_53, s_100_54, s_100_55, s_100_56, s_100_59, s_100_62, s_100_63_0, s_100_63_1, sb_100_63, s_100_64, s_100_65, s_100_68, s_100_69, s_100_70, s_100_71, s_100_72, s_100_73_0, s_100_73_1, sb_100_73, ↓reduceIte, e3]
      rfl
    · obtain ⟨v, v1, v2, v3⟩ := hinv.2 X hX hf
      have hf' : (nI X = nI (fl S s)) = False := by rw [i_eq (by omega) (by omega)]; exact eq_false hf
      by_cases hv : v < h + 1
      · have lack := fun d Q => c_X4_lacking (d := d) (Q := Q) (lx := lx) (xs := xs) (X := X) hinv.1 hb
        have lkl : lk (fl S s) X ≤ 12 := by
          unfold lk pcn
          exact Nat.le_trans List.countP_le_length (by rw [List.length_range]; exact Nat.le_refl _)
        have hmul : (h + 1) * (S 0 0 / 2) ≤ 12 * 3 := Nat.mul_le_mul hh (by omega)
        have n2 : ¬ nI 2 = 0 := by decide
        have d2 : nI (S 0 0) / nI 2 = nI (S 0 0 / 2) := i_div (by omega) (by decide) (by decide)
        by_cases hl : (h + 1) * (S 0 0 / 2) < lk (fl S s) X
        · refine ⟨M, false, hinv, frS_rf _ M, ⟨fun q => (by cases q), fun q => ?_⟩, fun D Q hD => ?_⟩
          · have := Rh_lk (n := S 0 0) al2 al1 (h + 1) X q
            omega
          · obtain ⟨D', rfl⟩ : ∃ D', D = D' + 2 := ⟨D - 2, by omega⟩
            simp (disch := omega) only [s_100_0, s_100_1, s_100_2, s_100_5, s_100_8, s_100_9_0, s_100_9_1, sb_100_9, s_100_10, s_100_11, s_100_12, s_100_15, s_100_16, s_100_17, s_100_20, s_100_21, s_100_22, s_100_25, s_100_26, s_100_27, s_100_30, s_100_31, s_100_32, s_100_33, s_100_36, s_100_37_0, s_100_37_1, sb_100_37, s_100_38, s_100_39, s_100_40, s_100_41, s_100_44, s_100_45, s_100_46, s_100_47, s_100_48, s_100_51, s_100_52, s_100_53, s_100_54, s_100_55, s_100_56, s_100_59, s_100_62, s_100_63_0, s_100_63_1, sb_100_63, s_100_64, s_100_65, s_100_68, s_100_69, s_100_70, s_100_71, s_100_72, s_100_73_0, s_100_73_1, sb_100_73, ↓reduceIte, e3, hf', i_in, i_cl, true_and, v2, i_lt, hv, lack, ap_some, e1, n2, not_false_eq_true, d2, i_mul, hl]
            rfl
        · obtain ⟨M1, r1, r2, r3⟩ := c_X4_listGains (lx := lx) (xs := xs) (h := h + 1) hW hs hb hh hX4 hinv.1
          have hinv1 : INVs M1 S s := ⟨frG_SE r1 hinv.1, fun Y hY hYf => by
            obtain ⟨v, v1, v2, v3⟩ := hinv.2 Y hY hYf
            exact ⟨v, v1, by rw [r1.1 41 (by decide) (by decide)]; exact v2, v3⟩⟩
          obtain ⟨M2, b, s1, s2, s3, s4, s5⟩ := PU_all (X := X) hW hs hb (by omega) (ih (by omega)) (S 0 0) (aln S) 0 X al1 (sub_rf _) (by decide) (fun x hx => by rw [Nat.zero_testBit] at hx; cases hx) hX lx xs M1 hinv1 r2
          have hfS : frS (h + 1 + 1) M M2 := frS_G r1 s2
          have hiff : b = true ↔ RH S s (h + 1) X := by
            constructor
            · exact fun q => s3 q
            · rintro ⟨l, hl', hR⟩
              obtain ⟨l2, m1, m2, m3⟩ := MT_max (pcn (un (aln S) l)) l (aln S) al2 (Nat.le_refl _) hl'
              refine s4 ⟨l2, m1, by rw [Nat.zero_or]; exact m2, ?_⟩
              exact Rh_mono (st := 0) (fun b i => fl_al) (fun X Y _ hXY a b i => mT_mono X Y hXY a b i) h _ _ (fun j hj => by rw [Nat.zero_testBit] at hj; cases hj) (m3 X) (val_full (fun b i => fl_al) l2 _ _ (sub_rf _) m1 hX) hR
          have e1' : M1 35 6 = nI (S 0 0) := hinv1.1.1
          cases b with
          | true =>
            refine ⟨M2, true, s1, hfS, hiff, fun D Q hD => ?_⟩
            obtain ⟨D', rfl⟩ : ∃ D', D = D' + 3 := ⟨D - 3, by omega⟩
            have q := ie_run (Q := Q) (D := D') w1 (by omega) hX4 v1 e1 e3 hf' v2 hv lkl hl lack (fun Q => r3 D' Q) e1' (fun Q => s5 (D' + 2) Q (by omega))
            rw [if_pos rfl] at q
            exact q
          | false =>
            refine ⟨up M2 41 X (nI (h + 1)), false, ⟨?_, fun Y hY hYf => ?_⟩, ?_, ⟨fun q => (by cases q), fun q => by have := hiff.mpr q; cases this⟩, fun D Q hD => ?_⟩
            · obtain ⟨e1, e2, e3, e4, e5, e6⟩ := s1.1
              exact ⟨by rw [up_ne _ _ _ (by decide)]; exact e1, by rw [up_ne _ _ _ (by decide)]; exact e2, by rw [up_ne _ _ _ (by decide)]; exact e3, by rw [up_ne _ _ _ (by decide)]; exact e4, by rw [up_ne _ _ _ (by decide)]; exact e5, by rw [up_ne _ _ _ (by decide)]; exact e6⟩
            · by_cases z : Y = X
              · rw [z]
                exact ⟨h + 1, hh, up_at, fun q => by have := hiff.mpr q; cases this⟩
              · rw [up_off z]
                exact s1.2 Y hY hYf
            · exact ⟨fun c h1 h2 h3 => by rw [up_ne _ _ _ h3]; exact hfS.1 c h1 h2 h3, fun j hj => by rw [up_ne _ _ _ (by decide)]; exact hfS.2.1 j hj, fun j hj => by rw [up_ne _ _ _ (by decide)]; exact hfS.2.2 j hj⟩
            · obtain ⟨D', rfl⟩ : ∃ D', D = D' + 3 := ⟨D - 3, by omega⟩
              have q := ie_run (Q := Q) (D := D') w1 (by omega) hX4 v1 e1 e3 hf' v2 hv lkl hl lack (fun Q => r3 D' Q) e1' (fun Q => s5 (D' + 2) Q (by omega))
              rw [if_neg (by simp)] at q
              exact q
      · have hlt : (v < h + 1) = False := eq_false hv
        refine ⟨M, false, hinv, frS_rf _ M, ⟨fun q => (by cases q), fun q => absurd (Rh_le q v (by omega)) v3⟩, fun D Q hD => ?_⟩
        simp (disch := omega) only [s_100_0, s_100_1, s_100_2, s_100_5, s_100_8, s_100_9_0, s_100_9_1, sb_100_9, s_100_10, s_100_11, s_100_12, s_100_15, s_100_16, s_100_17, s_100_20, s_100_21, s_100_22, s_100_25, s_100_26, s_100_27, s_100_30, s_100_31, s_100_32, s_100_33, s_100_36, s_100_37_0, s_100_37_1, sb_100_37, s_100_38, s_100_39, s_100_40, s_100_41, s_100_44, s_100_45, s_100_46, s_100_47, s_100_48, s_100_51, s_100_52, s_100_53, s_100_54, s_100_55, s_100_56, s_100_59, s_100_62, s_100_63_0, s_100_63_1, sb_100_63, s_100_64, s_100_65, s_100_68, s_100_69, s_100_70, s_100_71, s_100_72, s_100_73_0, s_100_73_1, sb_100_73, ↓reduceIte, e3, hf', i_in, i_cl, true_and, v2, i_lt, hlt]
        rfl
end PU
