/-! hours: the school as bits, and the class's small methods -/
def thg (s i : Nat) : Nat := (ls (fun t => s.testBit t) 4).getD i 0
def rk (s t : Nat) : Nat := (ls (fun t => s.testBit t) t).length
theorem th_rk : ∀ s, s < 16 → (∀ t, t < 4 → s.testBit t = true → rk s t < pcn s ∧ thg s (rk s t) = t) ∧ (∀ i, i < pcn s → thg s i < 4 ∧ s.testBit (thg s i) = true ∧ rk s (thg s i) = i) ∧ pcn s ≤ 4 := by decide +kernel
/-- what a child must know ahead of a thing, it knows -/
def ndP (S : Nat → Nat → Nat) (s X b i : Nat) : Prop := ∀ u, u < 4 → (S 4 (thg s i)).testBit u = true → (s.testBit u = true ∧ X.testBit (b * pcn s + rk s u) = true) ∨ (s.testBit u = false ∧ (kn (S 2) b).testBit u = true)
noncomputable def mT (S : Nat → Nat → Nat) (s X a b i : Nat) : Bool := X.testBit (a * pcn s + i) && (!X.testBit (b * pcn s + i) && ((S 3 b).testBit a && @decide (ndP S s X b i) (Classical.propDecidable _)))
theorem mT_iff {S : Nat → Nat → Nat} {s X a b i : Nat} : mT S s X a b i = true ↔ X.testBit (a * pcn s + i) = true ∧ X.testBit (b * pcn s + i) = false ∧ (S 3 b).testBit a = true ∧ ndP S s X b i := by
  unfold mT
  simp only [Bool.and_eq_true, Bool.not_eq_true', decide_eq_true_eq]
theorem mT_mono {S : Nat → Nat → Nat} {s : Nat} (X Y : Nat) (h : sub X Y) (a b i : Nat) (hT : mT S s X a b i = true) (hY : Y.testBit (b * pcn s + i) = false) : mT S s Y a b i = true := by
  rw [mT_iff] at hT ⊢
  obtain ⟨h1, h2, h3, h4⟩ := hT
  refine ⟨h _ h1, hY, h3, fun u hu hn => ?_⟩
  rcases h4 u hu hn with ⟨q1, q2⟩ | q
  · exact Or.inl ⟨q1, h _ q2⟩
  · exact Or.inr q
def fl (S : Nat → Nat → Nat) (s : Nat) : Nat := 2 ^ (S 0 0 * pcn s) - 1
def aln (S : Nat → Nat → Nat) : Nat := 2 ^ S 0 0 - 1
theorem tp_bit {k j : Nat} : (2 ^ k - 1).testBit j = true ↔ j < k := by rw [Nat.testBit_two_pow_sub_one]; simp
theorem pos_lt {n w b i : Nat} (hb : b < n) (hi : i < w) : b * w + i < n * w := by
  have : (b + 1) * w ≤ n * w := Nat.mul_le_mul_right w hb
  rw [Nat.succ_mul] at this
  omega
theorem fl_al {S : Nat → Nat → Nat} {s b i : Nat} (hb : (aln S).testBit b = true) (hi : i < pcn s) : (fl S s).testBit (b * pcn s + i) = true := by
  unfold aln at hb
  unfold fl
  rw [tp_bit] at hb ⊢
  exact pos_lt hb hi
def kb (w X c : Nat) : Nat := X / 2 ^ (c * w) % 2 ^ w
theorem kb_bit {w X c i : Nat} : (kb w X c).testBit i = (decide (i < w) && X.testBit (c * w + i)) := by
  unfold kb
  rw [Nat.testBit_mod_two_pow, Nat.testBit_div_two_pow]
  rw [Nat.add_comm]
theorem kb_lt {w X c : Nat} : kb w X c < 2 ^ w := Nat.mod_lt _ (Nat.two_pow_pos w)
/-- needs within the set, and whether what is needed beside it is known -/
def sqz (s N : Nat) : Nat := mskn (fun k => N.testBit (thg s k)) (pcn s)
noncomputable def opb (S : Nat → Nat → Nat) (s b i : Nat) : Bool := @decide (∀ u, u < 4 → (S 4 (thg s i)).testBit u = true → s.testBit u = false → (kn (S 2) b).testBit u = true) (Classical.propDecidable _)
noncomputable def opm (S : Nat → Nat → Nat) (s b : Nat) : Nat := mskn (opb S s b) (pcn s)
noncomputable def lrn (S : Nat → Nat → Nat) (s X b : Nat) : Nat := mskn (fun i => !X.testBit (b * pcn s + i) && decide (wo (sqz s (S 4 (thg s i))) (kb (pcn s) X b) = 0)) (pcn s) &&& opm S s b
theorem wo_0 {a b : Nat} : wo a b = 0 ↔ sub a b := by
  constructor
  · intro h j hj
    refine Classical.byContradiction fun q => ?_
    rw [Bool.not_eq_true] at q
    have : (wo a b).testBit j = true := by rw [wo_bit, hj, q]; rfl
    rw [h, Nat.zero_testBit] at this
    cases this
  · intro h
    apply Nat.eq_of_testBit_eq
    intro j
    rw [wo_bit, Nat.zero_testBit]
    by_cases q : a.testBit j = true
    · rw [q, h j q]; rfl
    · rw [Bool.not_eq_true] at q; rw [q]; rfl
theorem lrn_bit {S : Nat → Nat → Nat} {s X b i : Nat} (hs : s < 16) : (lrn S s X b).testBit i = true ↔ i < pcn s ∧ X.testBit (b * pcn s + i) = false ∧ ndP S s X b i := by
  obtain ⟨t1, t2, t3⟩ := th_rk s hs
  unfold lrn opm
  rw [Nat.testBit_and, mskn_bit, mskn_bit]
  unfold opb
  simp only [Bool.and_eq_true, decide_eq_true_eq, Bool.not_eq_true', wo_0]
  constructor
  · rintro ⟨⟨h1, h2, h3⟩, -, h4⟩
    refine ⟨h1, h2, fun u hu hn => ?_⟩
    by_cases hsu : s.testBit u = true
    · obtain ⟨r1, r2⟩ := t1 u hu hsu
      have q := h3 (rk s u) (by
        unfold sqz
        rw [mskn_bit, decide_eq_true r1, Bool.true_and, r2]; exact hn)
      rw [kb_bit, Bool.and_eq_true] at q
      exact Or.inl ⟨hsu, q.2⟩
    · rw [Bool.not_eq_true] at hsu
      exact Or.inr ⟨hsu, h4 u hu hn hsu⟩
  · rintro ⟨h1, h2, h3⟩
    refine ⟨⟨h1, h2, fun k hk => ?_⟩, h1, fun u hu hn hsu => ?_⟩
    · unfold sqz at hk
      rw [mskn_bit, Bool.and_eq_true, decide_eq_true_eq] at hk
      obtain ⟨k1, k2⟩ := hk
      obtain ⟨a1, a2, a3⟩ := t2 k k1
      rw [kb_bit, decide_eq_true k1, Bool.true_and]
      rcases h3 (thg s k) a1 k2 with ⟨-, q⟩ | ⟨q, -⟩
      · rw [a3] at q; exact q
      · rw [a2] at q; cases q
    · rcases h3 u hu hn with ⟨q, -⟩ | ⟨-, q⟩
      · rw [q] at hsu; cases hsu
      · exact q
noncomputable def gn (S : Nat → Nat → Nat) (s X a b : Nat) : Nat := if (S 3 b).testBit a then lrn S s X b &&& kb (pcn s) X a else 0
theorem gn_bit {S : Nat → Nat → Nat} {s X a b i : Nat} (hs : s < 16) : (gn S s X a b).testBit i = true ↔ i < pcn s ∧ mT S s X a b i = true := by
  unfold gn
  rw [mT_iff]
  by_cases h : (S 3 b).testBit a = true
  · rw [if_pos h, Nat.testBit_and, Bool.and_eq_true, lrn_bit hs, kb_bit, Bool.and_eq_true, decide_eq_true_eq]
    constructor
    · rintro ⟨⟨h1, h2, h3⟩, -, h4⟩; exact ⟨h1, h4, h2, h, h3⟩
    · rintro ⟨h1, h2, h3, -, h4⟩; exact ⟨⟨h1, h3, h4⟩, h1, h2⟩
  · rw [if_neg h, Nat.zero_testBit]
    constructor
    · intro q; cases q
    · rintro ⟨-, -, -, q, -⟩; exact absurd q h
theorem lrn_lt {S : Nat → Nat → Nat} {s X b : Nat} : lrn S s X b < 2 ^ pcn s := Nat.lt_of_le_of_lt Nat.and_le_left (mskn_lt _ _)
theorem gn_lt {S : Nat → Nat → Nat} {s X a b : Nat} : gn S s X a b < 2 ^ pcn s := by
  unfold gn
  split
  · exact Nat.lt_of_le_of_lt Nat.and_le_left lrn_lt
  · exact Nat.two_pow_pos _
/-- what the class's search holds -/
def SEf (M : Nat → Nat → Int32) (S : Nat → Nat → Nat) (s : Nat) : Prop := M 35 6 = nI (S 0 0) ∧ M 35 7 = nI (pcn s) ∧ M 35 8 = nI (fl S s) ∧ (∀ i, i < pcn s → M 36 i = nI (sqz s (S 4 (thg s i)))) ∧ (∀ c, c < S 0 0 → M 37 c = nI (opm S s c)) ∧ (∀ c, c < 6 → M 38 c = nI (S 3 c))
section SR
variable {d : Nat} {Q : Option Value → ex_H → Prop} {lx : Nat} {xs : Nat → Int32} {M : Nat → Nat → Int32} {S : Nat → Nat → Nat} {s X a b c i j : Nat}
theorem p16 (hs : s < 16) : 2 ^ pcn s ≤ 16 := Nat.pow_le_pow_right (by decide) (th_rk s hs).2.2
theorem sqz_lt {N : Nat} : sqz s N < 2 ^ pcn s := mskn_lt _ _
theorem opm_lt : opm S s c < 2 ^ pcn s := mskn_lt _ _
theorem cw_lt (hc : c < S 0 0) (hb : S 0 0 * pcn s ≤ 12) : c * pcn s ≤ 12 := Nat.le_trans (Nat.mul_le_mul_right _ (by omega)) hb
theorem c_X4_knownBy (hE : SEf M S s) (hs : s < 16) (hb : S 0 0 * pcn s ≤ 12) (hc : c < S 0 0) (hX : X < 4096) : Go d 96 0 [some (.ref 35), some (.int (nI c)), some (.int (nI X))] [] (HP lx xs M) Q = Q (some (.int (nI (kb (pcn s) X c)))) (HP lx xs M) := by
  have h2 := hE.2.1
  have p := p16 hs
  have cw := cw_lt (s := s) hc hb
  have w4 := (th_rk s hs).2.2
  have p0 := Nat.two_pow_pos (pcn s)
  simp (disch := omega) only [s_96_0, s_96_1, s_96_2, s_96_3, s_96_6, s_96_7, s_96_8, s_96_9, s_96_10, s_96_13, s_96_14, s_96_15, s_96_16, s_96_17, h2, i_mul, i_shr, i_1s, i_sub, i_and]
  rw [Nat.and_two_pow_sub_one_eq_mod]
  rfl
theorem c_X4_lacking (hE : SEf M S s) (hb : S 0 0 * pcn s ≤ 12) : Go (d + 1) 99 0 [some (.ref 35), some (.int (nI X))] [] (HP lx xs M) Q = Q (some (.int (nI (lk (fl S s) X)))) (HP lx xs M) := by
  have h3 := hE.2.2.1
  have hf : fl S s < 4096 := by
    unfold fl
    have : 2 ^ (S 0 0 * pcn s) ≤ 2 ^ 12 := Nat.pow_le_pow_right (by decide) hb
    have := Nat.two_pow_pos (S 0 0 * pcn s)
    omega
  have hl : wo (fl S s) X < 4096 := Nat.lt_of_le_of_lt (wo_le _ _) hf
  simp (disch := omega) only [s_99_0, s_99_1, s_99_4, s_99_5, s_99_6, s_99_7, s_99_8, s_99_11, h3, i_wo, c_bitCount, ap_some]
  rfl
theorem c_X4_learnable (hE : SEf M S s) (hs : s < 16) (hb : S 0 0 * pcn s ≤ 12) (hc : c < S 0 0) (hn : S 0 0 ≤ 6) (hX : X < 4096) : Go (d + 1) 97 0 [some (.ref 35), some (.int (nI c)), some (.int (nI X)), none, none, none] [] (HP lx xs M) Q = Q (some (.int (nI (lrn S s X c)))) (HP lx xs M) := by
  obtain ⟨e1, e2, e3, e4, e5, e6⟩ := hE
  have kb' := fun d Q => c_X4_knownBy (d := d) (Q := Q) (lx := lx) (xs := xs) (M := M) ⟨e1, e2, e3, e4, e5, e6⟩ hs hb hc hX
  have p := p16 hs
  have w4 := (th_rk s hs).2.2
  have hk := kb_lt (w := pcn s) (X := X) (c := c)
  have e37 := e5 c hc
  have lp := loopN (fun i => Go (d + 1) 97 13 [some (.ref 35), some (.int (nI c)), some (.int (nI X)), some (.int (nI (kb (pcn s) X c))), some (.int (nI (mskn (fun i => !X.testBit (c * pcn s + i) && decide (wo (sqz s (S 4 (thg s i))) (kb (pcn s) X c) = 0)) i))), some (.int (nI i))] [] (HP lx xs M) Q) (pcn s) fun i hi => by
    show Go (d + 1) _ 13 _ _ _ _ = Go (d + 1) _ 13 _ _ _ _
    have e36 := e4 i hi
    have hsq := sqz_lt (s := s) (N := S 4 (thg s i))
    have hw := wo_le (sqz s (S 4 (thg s i))) (kb (pcn s) X c)
    have kbt : (kb (pcn s) X c).testBit i = X.testBit (c * pcn s + i) := by rw [kb_bit, decide_eq_true hi, Bool.true_and]
    rw [s_97_13, mskn]
    by_cases h1 : X.testBit (c * pcn s + i) = true
    · rw [h1] at kbt
      rw [if_neg (by rw [h1]; simp), Nat.or_zero]
      simp (disch := omega) only [s_97_15, s_97_16, s_97_19, s_97_22, s_97_23, s_97_25, s_97_28, s_97_31, s_97_32, s_97_35, s_97_37, s_97_38, s_97_39, s_97_40, s_97_41, s_97_42, s_97_45, s_97_47, s_97_48, s_97_50, s_97_51, s_97_52, s_97_54, s_97_57, ↓reduceIte, e2, i_lt, hi, c_X6_has, kbt, ap_some, bI_0, Bool.true_eq_false, i_add]
    · rw [Bool.not_eq_true] at h1
      rw [h1] at kbt
      by_cases h2 : wo (sqz s (S 4 (thg s i))) (kb (pcn s) X c) = 0
      · rw [if_pos (by rw [h1, decide_eq_true h2]; rfl)]
        simp (disch := omega) only [s_97_15, s_97_16, s_97_19, s_97_22, s_97_23, s_97_25, s_97_28, s_97_31, s_97_32, s_97_35, s_97_37, s_97_38, s_97_39, s_97_40, s_97_41, s_97_42, s_97_45, s_97_47, s_97_48, s_97_50, s_97_51, s_97_52, s_97_54, s_97_57, ↓reduceIte, e2, i_lt, hi, c_X6_has, kbt, ap_some, bI_0, i_in, i_cl, true_and, e36, i_wo, i_e0, h2, i_1s, i_or, i_add]
      · rw [if_neg (by rw [decide_eq_false h2]; simp), Nat.or_zero]
        simp (disch := omega) only [s_97_15, s_97_16, s_97_19, s_97_22, s_97_23, s_97_25, s_97_28, s_97_31, s_97_32, s_97_35, s_97_37, s_97_38, s_97_39, s_97_40, s_97_41, s_97_42, s_97_45, s_97_47, s_97_48, s_97_50, s_97_51, s_97_52, s_97_54, s_97_57, ↓reduceIte, e2, i_lt, hi, c_X6_has, kbt, ap_some, bI_0, i_in, i_cl, true_and, e36, i_wo, i_e0, h2, i_add]
  try dsimp only at lp
  have st : Go (d + 1) 97 0 [some (.ref 35), some (.int (nI c)), some (.int (nI X)), none, none, none] [] (HP lx xs M) Q = Go (d + 1) 97 13 [some (.ref 35), some (.int (nI c)), some (.int (nI X)), some (.int (nI (kb (pcn s) X c))), some (.int (nI 0)), some (.int (nI 0))] [] (HP lx xs M) Q := by
    simp (disch := omega) only [s_97_0, s_97_1, s_97_2, s_97_3, s_97_6, s_97_7, s_97_8, s_97_10, s_97_11, kb', ap_some]
  rw [st]
  refine Eq.trans lp ?_
  rw [s_97_13]
  simp (disch := omega) only [s_97_15, s_97_16, s_97_19, s_97_60, s_97_62, s_97_63, s_97_66, s_97_67, s_97_68, s_97_69, ↓reduceIte, e2, i_lt, Nat.lt_irrefl, i_in, i_cl, true_and, e37, i_and]
  rfl
theorem fof_ex : ∀ F, F < 64 → F ≠ 0 → ∃ a, a < 6 ∧ F.testBit a = true ∧ ∀ j, j < a → F.testBit j = false := by decide +kernel
theorem c_X4_firstOf {F : Nat} (hF : F < 64) (ha : a < 6) (h1 : F.testBit a = true) (h2 : ∀ j, j < a → F.testBit j = false) : Go (d + 1) 104 0 [some (.int (nI F)), none] [] (HP lx xs M) Q = Q (some (.int (nI a))) (HP lx xs M) := by
  have lp := loopN (fun c => Go (d + 1) 104 2 [some (.int (nI F)), some (.int (nI c))] [] (HP lx xs M) Q) a fun c hc => by
    show Go (d + 1) _ 2 _ _ _ _ = Go (d + 1) _ 2 _ _ _ _
    have c6 : c < 6 := by omega
    have hb := h2 c hc
    rw [s_104_2]
    simp (disch := omega) only [s_104_3, s_104_5, s_104_8, s_104_9, s_104_10, s_104_13, s_104_16, s_104_17, s_104_18, s_104_21, ↓reduceIte, i_lt, c6, c_X6_has, hb, ap_some, bI_0, i_add]
  try dsimp only at lp
  simp only [s_104_0, s_104_1]
  refine Eq.trans lp ?_
  rw [s_104_2]
  simp (disch := omega) only [s_104_3, s_104_5, s_104_8, s_104_9, s_104_10, s_104_13, s_104_16, s_104_17, ↓reduceIte, i_lt, ha, c_X6_has, h1, ap_some, bI_0, Bool.true_eq_false]
end SR
