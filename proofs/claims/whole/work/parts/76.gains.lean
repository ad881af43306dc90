/-! hours: what each may teach each, listed -/
noncomputable def ppf (S : Nat → Nat → Nat) (s X P C x d : Nat) : Bool := (!decide (gn S s X x d = 0) && (decide (d < P) || (decide (d = P) && decide (x < C)))) || (!decide (gn S s X d x = 0) && (decide (x < P) || (decide (x = P) && decide (d < C))))
noncomputable def prm (S : Nat → Nat → Nat) (s X x : Nat) : Nat := mskn (fun d => !decide (gn S s X x d = 0) || !decide (gn S s X d x = 0)) (S 0 0)
def GR (M : Nat → Nat → Int32) (S : Nat → Nat → Nat) (s h X : Nat) : Prop := (∀ a b, a < S 0 0 → b < S 0 0 → M 39 ((h * 6 + a) * 6 + b) = nI (gn S s X a b)) ∧ ∀ c, c < S 0 0 → M 40 (h * 6 + c) = nI (prm S s X c)
theorem mskn_cg {f g : Nat → Bool} {n : Nat} (h : ∀ d, d < n → f d = g d) : mskn f n = mskn g n := by
  apply Nat.eq_of_testBit_eq
  intro i
  rw [mskn_bit, mskn_bit]
  by_cases e : i < n
  · rw [h i e]
  · rw [decide_eq_false e, Bool.false_and, Bool.false_and]
theorem mskn_or {f g : Nat → Bool} {n k : Nat} (hk : k < n) (h : ∀ d, d < n → g d = (f d || decide (d = k))) : mskn g n = mskn f n ||| 2 ^ k := by
  apply Nat.eq_of_testBit_eq
  intro i
  rw [Nat.testBit_or, mskn_bit, mskn_bit]
  by_cases e : i < n
  · rw [h i e, decide_eq_true e, Bool.true_and, Bool.true_and]
    congr 1
    by_cases z : i = k
    · rw [z, decide_eq_true rfl, Nat.testBit_two_pow_self]
    · rw [decide_eq_false z, Nat.testBit_two_pow_of_ne (fun q => z q.symm)]
  · rw [decide_eq_false e, Bool.false_and, Bool.false_and, Nat.testBit_two_pow_of_ne (by omega)]
    rfl
section LG
variable {S : Nat → Nat → Nat} {s X P C x d : Nat}
theorem ppf_s : ppf S s X P (C + 1) x d = (ppf S s X P C x d || (!decide (gn S s X C P = 0) && ((decide (x = C) && decide (d = P)) || (decide (x = P) && decide (d = C))))) := by
  unfold ppf
  rw [Bool.eq_iff_iff]
  simp only [Bool.or_eq_true, Bool.and_eq_true, decide_eq_true_eq, Bool.not_eq_true', decide_eq_false_iff_not]
  constructor
  · rintro (⟨g, (q | ⟨q1, q2⟩)⟩ | ⟨g, (q | ⟨q1, q2⟩)⟩)
    · exact Or.inl (Or.inl ⟨g, Or.inl q⟩)
    · by_cases z : x = C
      · right; rw [z, q1] at g; exact ⟨g, Or.inl ⟨z, q1⟩⟩
      · exact Or.inl (Or.inl ⟨g, Or.inr ⟨q1, by omega⟩⟩)
    · exact Or.inl (Or.inr ⟨g, Or.inl q⟩)
    · by_cases z : d = C
      · right; rw [z, q1] at g; exact ⟨g, Or.inr ⟨q1, z⟩⟩
      · exact Or.inl (Or.inr ⟨g, Or.inr ⟨q1, by omega⟩⟩)
  · rintro ((⟨g, (q | ⟨q1, q2⟩)⟩ | ⟨g, (q | ⟨q1, q2⟩)⟩) | ⟨g, (⟨q1, q2⟩ | ⟨q1, q2⟩)⟩)
    · exact Or.inl ⟨g, Or.inl q⟩
    · exact Or.inl ⟨g, Or.inr ⟨q1, by omega⟩⟩
    · exact Or.inr ⟨g, Or.inl q⟩
    · exact Or.inr ⟨g, Or.inr ⟨q1, by omega⟩⟩
    · left; rw [q1, q2]; exact ⟨g, Or.inr ⟨rfl, by omega⟩⟩
    · right; rw [q1, q2]; exact ⟨g, Or.inr ⟨rfl, by omega⟩⟩
theorem gn_self (hs : s < 16) : gn S s X P P = 0 := by
  apply Nat.eq_of_testBit_eq
  intro i
  rw [Nat.zero_testBit, ← Bool.not_eq_true, gn_bit hs, mT_iff]
  rintro ⟨-, h1, h2, -⟩
  rw [h1] at h2
  cases h2
end LG
section LH
variable {lx : Nat} {xs : Nat → Int32} {S : Nat → Nat → Nat} {s X h : Nat}
theorem ll_gains1 (hn : S 0 0 ≤ 6) (hh : h ≤ 12) : ∀ m c M, c + m = S 0 0 → SEf M S s → (∀ x, x < c → M 40 (h * 6 + x) = nI 0) → ∃ M1, (∀ c, c ≠ 40 → M1 c = M c) ∧ (∀ j, j < h * 6 ∨ h * 6 + 6 ≤ j → M1 40 j = M 40 j) ∧ (∀ x, x < S 0 0 → M1 40 (h * 6 + x) = nI 0) ∧ ∀ d Q o5 o6 o7, Go d 101 8 [some (.ref 35), some (.int (nI h)), some (.int (nI X)), some (.int (nI (h * 6))), some (.int (nI c)), o5, o6, o7] [] (HP lx xs M) Q = Go d 101 33 [some (.ref 35), some (.int (nI h)), some (.int (nI X)), some (.int (nI (h * 6))), some (.int (nI (S 0 0))), o5, o6, o7] [] (HP lx xs M1) Q := by
  intro m
  induction m with
  | zero =>
    intro c M hc hE h0
    have e : c = S 0 0 := by omega
    subst e
    refine ⟨M, fun _ _ => rfl, fun _ _ => rfl, h0, fun d Q o5 o6 o7 => ?_⟩
    rw [s_101_8]
    simp (disch := omega) only [s_101_10, s_101_11, s_101_14, ↓reduceIte, hE.1, i_lt, Nat.lt_irrefl]
  | succ m ih =>
    intro c M hc hE h0
    have hc2 : c < S 0 0 := by omega
    obtain ⟨e1, e2, e3, e4, e5, e6⟩ := hE
    obtain ⟨M1, r1, r2, r3, r4⟩ := ih (c + 1) (up M 40 (h * 6 + c) (nI 0)) (by omega) ⟨by rw [up_ne _ _ _ (by decide)]; exact e1, by rw [up_ne _ _ _ (by decide)]; exact e2, by rw [up_ne _ _ _ (by decide)]; exact e3, by rw [up_ne _ _ _ (by decide)]; exact e4, by rw [up_ne _ _ _ (by decide)]; exact e5, by rw [up_ne _ _ _ (by decide)]; exact e6⟩ (fun x hx => by
      by_cases z : x = c
      · rw [z, up_at]
      · rw [up_off (by omega)]; exact h0 x (by omega))
    refine ⟨M1, fun c hc => (r1 c hc).trans (up_ne _ _ _ hc), fun j hj => by rw [r2 j hj, up_off (by omega)], r3, fun d Q o5 o6 o7 => ?_⟩
    rw [s_101_8]
    simp (disch := omega) only [s_101_10, s_101_11, s_101_14, s_101_17, s_101_18, s_101_21, s_101_22, s_101_24, s_101_25, s_101_26, s_101_27, s_101_30, ↓reduceIte, e1, i_lt, hc2, i_add, i_in, i_cl, true_and]
    exact r4 d Q o5 o6 o7
def GRp (M : Nat → Nat → Int32) (S : Nat → Nat → Nat) (s h X P C : Nat) : Prop := (∀ a b, a < S 0 0 → b < S 0 0 → (b < P ∨ (b = P ∧ a < C)) → M 39 ((h * 6 + a) * 6 + b) = nI (gn S s X a b)) ∧ ∀ x, x < S 0 0 → M 40 (h * 6 + x) = nI (mskn (ppf S s X P C x) (S 0 0))
def frG (h : Nat) (M M1 : Nat → Nat → Int32) : Prop := (∀ c, c ≠ 39 → c ≠ 40 → M1 c = M c) ∧ (∀ j, j < h * 36 ∨ h * 36 + 36 ≤ j → M1 39 j = M 39 j) ∧ (∀ j, j < h * 6 ∨ h * 6 + 6 ≤ j → M1 40 j = M 40 j)
theorem frG_SE {M M1 : Nat → Nat → Int32} (hf : frG h M M1) (hE : SEf M S s) : SEf M1 S s := by
  obtain ⟨e1, e2, e3, e4, e5, e6⟩ := hE
  exact ⟨by rw [hf.1 35 (by decide) (by decide)]; exact e1, by rw [hf.1 35 (by decide) (by decide)]; exact e2, by rw [hf.1 35 (by decide) (by decide)]; exact e3, by rw [hf.1 36 (by decide) (by decide)]; exact e4, by rw [hf.1 37 (by decide) (by decide)]; exact e5, by rw [hf.1 38 (by decide) (by decide)]; exact e6⟩
theorem frG_tr {M M1 M2 : Nat → Nat → Int32} (a : frG h M M1) (b : frG h M1 M2) : frG h M M2 := ⟨fun c h1 h2 => (b.1 c h1 h2).trans (a.1 c h1 h2), fun j hj => (b.2.1 j hj).trans (a.2.1 j hj), fun j hj => (b.2.2 j hj).trans (a.2.2 j hj)⟩
theorem ll_gains3 (hW : WF S) (hs : s < 16) (hb : S 0 0 * pcn s ≤ 12) (hh : h ≤ 12) (hX : X < 4096) {P : Nat} (hP : P < S 0 0) : ∀ m C M, C + m = S 0 0 → SEf M S s → GRp M S s h X P C → ∃ M1, frG h M M1 ∧ GRp M1 S s h X P (S 0 0) ∧ ∀ d Q o7, ∃ o7', Go (d + 1) 101 57 [some (.ref 35), some (.int (nI h)), some (.int (nI X)), some (.int (nI (h * 6))), some (.int (nI P)), some (.int (nI (lrn S s X P))), some (.int (nI C)), o7] [] (HP lx xs M) Q = Go (d + 1) 101 160 [some (.ref 35), some (.int (nI h)), some (.int (nI X)), some (.int (nI (h * 6))), some (.int (nI P)), some (.int (nI (lrn S s X P))), some (.int (nI (S 0 0))), o7'] [] (HP lx xs M1) Q := by
  have w1 := hW.1
  have p := p16 hs
  intro m
  induction m with
  | zero =>
    intro C M hC hE hG
    have e : C = S 0 0 := by omega
    subst e
    refine ⟨M, ⟨fun _ _ _ => rfl, fun _ _ => rfl, fun _ _ => rfl⟩, hG, fun d Q o7 => ⟨o7, ?_⟩⟩
    rw [s_101_57]
    simp (disch := omega) only [s_101_59, s_101_60, s_101_63, ↓reduceIte, hE.1, i_lt, Nat.lt_irrefl]
  | succ m ih =>
    intro C M hC hE hG
    have hC2 : C < S 0 0 := by omega
    have e1 := hE.1
    have e38 := hE.2.2.2.2.2 P (by omega)
    have w6 := hW.2.2.2.2.2.1 P (by omega)
    have hl := lrn_lt (S := S) (s := s) (X := X) (b := P)
    have hk := kb_lt (w := pcn s) (X := X) (c := C)
    have hg := gn_lt (S := S) (s := s) (X := X) (a := C) (b := P)
    have kb' := fun d Q => c_X4_knownBy (d := d) (Q := Q) (lx := lx) (xs := xs) hE hs hb hC2 hX
    obtain ⟨g1, g2⟩ := hG
    -- up to the gain
    have st : ∀ d Q o7, Go (d + 1) 101 57 [some (.ref 35), some (.int (nI h)), some (.int (nI X)), some (.int (nI (h * 6))), some (.int (nI P)), some (.int (nI (lrn S s X P))), some (.int (nI C)), o7] [] (HP lx xs M) Q = Go (d + 1) 101 114 [some (.ref 35), some (.int (nI h)), some (.int (nI X)), some (.int (nI (h * 6))), some (.int (nI P)), some (.int (nI (lrn S s X P))), some (.int (nI C)), some (.int (nI (gn S s X C P)))] [] (HP lx xs (up M 39 ((h * 6 + C) * 6 + P) (nI (gn S s X C P)))) Q := by
      intro d Q o7
      rw [s_101_57]
      by_cases hh2 : (S 3 P).testBit C = true
      · have eg : gn S s X C P = lrn S s X P &&& kb (pcn s) X C := if_pos hh2
        rw [eg]
        simp (disch := omega) only [s_101_59, s_101_60, s_101_63, s_101_66, s_101_67, s_101_70, s_101_72, s_101_73, s_101_75, s_101_78, s_101_81, s_101_83, s_101_84, s_101_86, s_101_87, s_101_90, s_101_91, s_101_94, s_101_95, s_101_97, s_101_98, s_101_101, s_101_102, s_101_104, s_101_105, s_101_107, s_101_108, s_101_110, s_101_111, s_101_113, ↓reduceIte, e1, i_lt, hC2, i_in, i_cl, true_and, e38, c_X6_has, hh2, ap_some, bI_0, Bool.true_eq_false, kb', i_and, i_add, i_mul]
      · have eg : gn S s X C P = 0 := if_neg hh2
        rw [Bool.not_eq_true] at hh2
        rw [eg]
        simp (disch := omega) only [s_101_59, s_101_60, s_101_63, s_101_66, s_101_67, s_101_70, s_101_72, s_101_73, s_101_75, s_101_78, s_101_81, s_101_83, s_101_84, s_101_86, s_101_87, s_101_90, s_101_91, s_101_94, s_101_95, s_101_97, s_101_98, s_101_101, s_101_102, s_101_104, s_101_105, s_101_107, s_101_108, s_101_110, s_101_111, s_101_113, ↓reduceIte, e1, i_lt, hC2, i_in, i_cl, true_and, e38, c_X6_has, hh2, ap_some, bI_0, i_add, i_mul]
    by_cases hz : gn S s X C P = 0
    · have hf : frG h M (up M 39 ((h * 6 + C) * 6 + P) (nI (gn S s X C P))) := ⟨fun c h1 h2 => up_ne _ _ _ h1, fun j hj => up_off (by omega), fun j hj => by rw [up_ne _ _ _ (by decide)]⟩
      obtain ⟨M1, r1, r2, r3⟩ := ih (C + 1) (up M 39 ((h * 6 + C) * 6 + P) (nI (gn S s X C P))) (by omega) (frG_SE hf hE) ⟨fun a b ha hb' hab => by
        by_cases z : a = C ∧ b = P
        · rw [z.1, z.2, up_at]
        · rw [up_off (by omega)]
          exact g1 a b ha hb' (by omega), fun x hx => by
        rw [up_ne _ _ _ (by decide), g2 x hx]
        congr 1
        exact mskn_cg fun d _ => by rw [ppf_s, decide_eq_true hz]; simp⟩
      refine ⟨M1, frG_tr hf r1, r2, fun d Q o7 => ?_⟩
      obtain ⟨o7', r4⟩ := r3 d Q (some (.int (nI (gn S s X C P))))
      refine ⟨o7', ?_⟩
      rw [st, ← r4]
      simp (disch := omega) only [s_101_114, s_101_116, s_101_119, s_101_154, s_101_157, ↓reduceIte, i_e0, hz, i_add]
    · have hCP : C ≠ P := fun z => hz (by rw [z]; exact gn_self hs)
      have gC := g2 C hC2
      have gP := g2 P hP
      have hmC := mskn_lt (ppf S s X P C C) (S 0 0)
      have hmP := mskn_lt (ppf S s X P C P) (S 0 0)
      have h2n : 2 ^ S 0 0 ≤ 2 ^ 6 := Nat.pow_le_pow_right (by decide) w1
      have sC : mskn (ppf S s X P (C + 1) C) (S 0 0) = mskn (ppf S s X P C C) (S 0 0) ||| 2 ^ P := mskn_or hP fun d _ => by
        rw [ppf_s, decide_eq_false hz, decide_eq_true (rfl : C = C), decide_eq_false hCP]; simp
      have sP : mskn (ppf S s X P (C + 1) P) (S 0 0) = mskn (ppf S s X P C P) (S 0 0) ||| 2 ^ C := mskn_or hC2 fun d _ => by
        rw [ppf_s, decide_eq_false hz, decide_eq_true (rfl : P = P), decide_eq_false (fun z => hCP z.symm)]; simp
      have hf : frG h M (up (up (up M 39 ((h * 6 + C) * 6 + P) (nI (gn S s X C P))) 40 (h * 6 + C) (nI (mskn (ppf S s X P C C) (S 0 0) ||| 2 ^ P))) 40 (h * 6 + P) (nI (mskn (ppf S s X P C P) (S 0 0) ||| 2 ^ C))) := ⟨fun c h1 h2 => by rw [up_ne _ _ _ h2, up_ne _ _ _ h2, up_ne _ _ _ h1], fun j hj => by rw [up_ne _ _ _ (by decide), up_ne _ _ _ (by decide), up_off (by omega)], fun j hj => by rw [up_off (by omega), up_off (by omega), up_ne _ _ _ (by decide)]⟩
      obtain ⟨M1, r1, r2, r3⟩ := ih (C + 1) _ (by omega) (frG_SE hf hE) ⟨fun a b ha hb' hab => by
        rw [up_ne _ _ _ (by decide), up_ne _ _ _ (by decide)]
        by_cases z : a = C ∧ b = P
        · rw [z.1, z.2, up_at]
        · rw [up_off (by omega)]
          exact g1 a b ha hb' (by omega), fun x hx => by
        by_cases z : x = P
        · rw [z, up_at, sP]
        · rw [up_off (by omega)]
          by_cases z2 : x = C
          · rw [z2, up_at, sC]
          · rw [up_off (by omega), up_ne _ _ _ (by decide), g2 x hx]
            congr 1
            exact mskn_cg fun d _ => by rw [ppf_s, decide_eq_false z, decide_eq_false z2]; simp⟩
      refine ⟨M1, frG_tr hf r1, r2, fun d Q o7 => ?_⟩
      obtain ⟨o7', r4⟩ := r3 d Q (some (.int (nI (gn S s X C P))))
      refine ⟨o7', ?_⟩
      rw [st, ← r4]
      have hne : h * 6 + P ≠ h * 6 + C := by omega
      simp (disch := omega) only [s_101_114, s_101_116, s_101_119, s_101_122, s_101_123, s_101_126, s_101_127, s_101_129, s_101_130, s_101_131, s_101_132, s_101_133, s_101_135, s_101_136, s_101_137, s_101_138, s_101_139, s_101_142, s_101_143, s_101_145, s_101_146, s_101_147, s_101_148, s_101_149, s_101_151, s_101_152, s_101_153, s_101_154, s_101_157, ↓reduceIte, i_e0, hz, i_add, i_in, i_cl, true_and, up_ne, gC, i_1s, i_or, up_off, gP]
theorem ll_gains2 (hW : WF S) (hs : s < 16) (hb : S 0 0 * pcn s ≤ 12) (hh : h ≤ 12) (hX : X < 4096) : ∀ m P M, P + m = S 0 0 → SEf M S s → GRp M S s h X P 0 → ∃ M1, frG h M M1 ∧ GR M1 S s h X ∧ ∀ d Q o5 o6 o7, Go (d + 2) 101 36 [some (.ref 35), some (.int (nI h)), some (.int (nI X)), some (.int (nI (h * 6))), some (.int (nI P)), o5, o6, o7] [] (HP lx xs M) Q = Q none (HP lx xs M1) := by
  have w1 := hW.1
  intro m
  induction m with
  | zero =>
    intro P M hP hE hG
    have e : P = S 0 0 := by omega
    subst e
    refine ⟨M, ⟨fun _ _ _ => rfl, fun _ _ => rfl, fun _ _ => rfl⟩, ⟨fun a b ha hb' => hG.1 a b ha hb' (Or.inl hb'), fun c hc => ?_⟩, fun d Q o5 o6 o7 => ?_⟩
    · rw [hG.2 c hc]
      congr 1
      exact mskn_cg fun d hd => by unfold ppf; rw [decide_eq_true hd, decide_eq_true hc]; simp
    · rw [s_101_36]
      simp (disch := omega) only [s_101_38, s_101_39, s_101_42, s_101_166, ↓reduceIte, hE.1, i_lt, Nat.lt_irrefl]
  | succ m ih =>
    intro P M hP hE hG
    have hP2 : P < S 0 0 := by omega
    have e1 := hE.1
    obtain ⟨M1, r1, r2, r3⟩ := ll_gains3 (lx := lx) (xs := xs) hW hs hb hh hX hP2 (S 0 0) 0 M (by omega) hE hG
    obtain ⟨M2, s1, s2, s3⟩ := ih (P + 1) M1 (by omega) (frG_SE r1 hE) ⟨fun a b ha hb' hab => r2.1 a b ha hb' (by omega), fun x hx => by
      rw [r2.2 x hx]
      congr 1
      refine mskn_cg fun d hd => ?_
      unfold ppf
      rw [Bool.eq_iff_iff]
      simp only [Bool.or_eq_true, Bool.and_eq_true, decide_eq_true_eq, Bool.not_eq_true', decide_eq_false_iff_not]
      constructor
      · rintro (⟨g, q⟩ | ⟨g, q⟩)
        · exact Or.inl ⟨g, by omega⟩
        · exact Or.inr ⟨g, by omega⟩
      · rintro (⟨g, q⟩ | ⟨g, q⟩)
        · exact Or.inl ⟨g, by omega⟩
        · exact Or.inr ⟨g, by omega⟩⟩
    refine ⟨M2, frG_tr r1 s1, s2, fun d Q o5 o6 o7 => ?_⟩
    obtain ⟨o7', r4⟩ := r3 (d + 1) Q o7
    have ln := fun d Q => c_X4_learnable (d := d) (Q := Q) (lx := lx) (xs := xs) hE hs hb hP2 w1 hX
    rw [s_101_36]
    simp (disch := omega) only [s_101_38, s_101_39, s_101_42, s_101_45, s_101_46, s_101_48, s_101_49, s_101_52, s_101_54, s_101_55, ↓reduceIte, e1, i_lt, hP2, ln, ap_some]
    refine Eq.trans r4 ?_
    simp (disch := omega) only [s_101_160, s_101_163, i_add]
    exact s3 d Q _ _ _
theorem c_X4_listGains (hW : WF S) (hs : s < 16) (hb : S 0 0 * pcn s ≤ 12) (hh : h ≤ 12) (hX : X < 4096) {M : Nat → Nat → Int32} (hE : SEf M S s) : ∃ M1, frG h M M1 ∧ GR M1 S s h X ∧ ∀ d Q, Go (d + 2) 101 0 [some (.ref 35), some (.int (nI h)), some (.int (nI X)), none, none, none, none, none] [] (HP lx xs M) Q = Q none (HP lx xs M1) := by
  have w1 := hW.1
  obtain ⟨M1, r1, r2, r3, r4⟩ := ll_gains1 (lx := lx) (xs := xs) (X := X) w1 hh (S 0 0) 0 M (by omega) hE (fun x hx => by omega)
  have hf : frG h M M1 := ⟨fun c h1 h2 => r1 c h2, fun j hj => by rw [r1 39 (by decide)], r2⟩
  obtain ⟨M2, s1, s2, s3⟩ := ll_gains2 (lx := lx) (xs := xs) hW hs hb hh hX (S 0 0) 0 M1 (by omega) (frG_SE hf hE) ⟨fun a b ha hb' hab => by omega, fun x hx => by
    rw [r3 x hx]
    congr 1
    apply Nat.eq_of_testBit_eq
    intro i
    rw [Nat.zero_testBit, mskn_bit]
    unfold ppf
    simp⟩
  refine ⟨M2, frG_tr hf s1, s2, fun d Q => ?_⟩
  simp (disch := omega) only [s_101_0, s_101_1, s_101_3, s_101_4, s_101_5, s_101_6, i_mul]
  rw [r4]
  simp (disch := omega) only [s_101_33, s_101_34]
  exact s3 d Q _ _ _
end LH
