/-! hours: what the reference reaches, hour by hour -/
def FR (S : Nat → Nat → Nat) (s st : Nat) : Nat → Nat → Prop
  | 0, Y => Y = st
  | h + 1, Y => ∃ X, FR S s st h X ∧ PS S s X (aln S) X Y
noncomputable def fr (S : Nat → Nat → Nat) (s st h Y : Nat) : Bool := @decide (FR S s st h Y) (Classical.propDecidable _)
theorem mix_ge {f g : Nat → Int32} {j k : Nat} (h : ¬ k < j) : mix f g j k = f k := if_neg h
section FW
variable {S : Nat → Nat → Nat} {s st h Y : Nat}
theorem fr_iff : fr S s st h Y = true ↔ FR S s st h Y := by
  unfold fr
  simp only [decide_eq_true_eq]
theorem FR_up (q : FR S s st h Y) : FR S s st (h + 1) Y := ⟨Y, q, [], trivial, rfl⟩
theorem FR_le (q : FR S s st h Y) : ∀ k, h ≤ k → FR S s st k Y := by
  intro k
  induction k with
  | zero => intro hk; rw [show h = 0 by omega] at q; exact q
  | succ k ih =>
    intro hk
    by_cases e : h = k + 1
    · rw [← e]; exact q
    · exact FR_up (ih (by omega))
theorem FR_RH : ∀ h k, (∃ X, FR S s st k X ∧ RH S s h X) ↔ FR S s st (k + h) (fl S s) := by
  intro h
  induction h with
  | zero =>
    intro k
    constructor
    · rintro ⟨X, q1, q2⟩
      have q2 : X = fl S s := q2
      rw [q2] at q1
      exact q1
    · intro q; exact ⟨fl S s, q, rfl⟩
  | succ h ih =>
    intro k
    rw [show k + (h + 1) = k + 1 + h by omega, ← ih (k + 1)]
    constructor
    · rintro ⟨X, q1, l, q2, q3⟩
      exact ⟨_, ⟨X, q1, l, q2, rfl⟩, q3⟩
    · rintro ⟨Y, ⟨X, q1, l, q2, q3⟩, q4⟩
      rw [← q3] at q4
      exact ⟨X, q1, l, q2, q4⟩
theorem FR_st : RH S s h st ↔ FR S s st h (fl S s) := by
  have q := FR_RH (S := S) (s := s) (st := st) h 0
  rw [Nat.zero_add] at q
  rw [← q]
  constructor
  · intro z; exact ⟨st, rfl, z⟩
  · rintro ⟨X, q1, q2⟩
    have q1 : X = st := q1
    rw [q1] at q2
    exact q2
theorem FR_sub (hst : sub st (fl S s)) : ∀ h Y, FR S s st h Y → sub st Y ∧ sub Y (fl S s) := by
  intro h
  induction h with
  | zero => intro Y q; have q : Y = st := q; rw [q]; exact ⟨sub_rf _, hst⟩
  | succ h ih =>
    rintro Y ⟨X, q1, l, q2, q3⟩
    obtain ⟨a1, a2⟩ := ih X q1
    rw [← q3]
    exact ⟨sub_tr a1 (val_sub _ _), val_full (fun b i => fl_al) l _ _ (sub_rf _) q2 a2⟩
/-- if an hour reaches nothing more, none does -/
theorem FR_end (hn : ∀ Y, FR S s st (h + 1) Y → FR S s st h Y) : ∀ k Y, FR S s st (h + k) Y → FR S s st h Y := by
  intro k
  induction k with
  | zero => intro Y q; exact q
  | succ k ih =>
    rintro Y ⟨X, q1, q2⟩
    exact hn Y ⟨X, ih X q1, q2⟩
noncomputable def nr (S : Nat → Nat → Nat) (s st h : Nat) : Nat := (List.range 4096).countP (fun Y => !fr S s st h Y)
theorem nr_lt (hY : Y < 4096) (h1 : fr S s st (h + 1) Y = true) (h2 : fr S s st h Y = false) : nr S s st (h + 1) + 1 ≤ nr S s st h := by
  have q := cP_lt (p := fun Y => !fr S s st h Y) (q := fun Y => !fr S s st (h + 1) Y) (j := Y) (fun i hi => by
    rw [Bool.not_eq_true'] at hi ⊢
    rw [← Bool.not_eq_true] at hi ⊢
    exact fun z => hi (fr_iff.mpr (FR_up (fr_iff.mp z)))) (by rw [h2]; rfl) (by rw [h1]; rfl) 4096
  rw [if_pos hY] at q
  exact q
noncomputable def mo (S : Nat → Nat → Nat) (s st h : Nat) : Nat → Bool
  | 0 => false
  | j + 1 => mo S s st h j || (fr S s st (h + 1) j && !fr S s st h j)
theorem mo_iff : ∀ j, mo S s st h j = true ↔ ∃ Y, Y < j ∧ fr S s st (h + 1) Y = true ∧ fr S s st h Y = false := by
  intro j
  induction j with
  | zero => rw [mo]; constructor; (intro q; cases q); (rintro ⟨Y, q, -⟩; omega)
  | succ j ih =>
    rw [mo, Bool.or_eq_true, Bool.and_eq_true, Bool.not_eq_true', ih]
    constructor
    · rintro (⟨Y, q1, q2⟩ | q)
      · exact ⟨Y, by omega, q2⟩
      · exact ⟨j, by omega, q⟩
    · rintro ⟨Y, q1, q2, q3⟩
      by_cases z : Y = j
      · rw [z] at q2 q3; exact Or.inr ⟨q2, q3⟩
      · exact Or.inl ⟨Y, by omega, q2, q3⟩
end FW
def RCH (M : Nat → Nat → Int32) (S : Nat → Nat → Nat) (s st h : Nat) : Prop := ∀ Y, Y ≤ fl S s → M 61 Y = bI (fr S s st h Y)
def frH (M M1 : Nat → Nat → Int32) : Prop := ∀ c, c ≠ 61 → c ≠ 62 → c ≠ 64 → c ≠ 65 → M1 c = M c
theorem frH_M {M M1 : Nat → Nat → Int32} {S : Nat → Nat → Nat} (h : frH M M1) (hC : RepM M S) : RepM M1 S := RepM_eq hC (fun j _ _ => by rw [h 53 (by decide) (by decide) (by decide) (by decide)]) (fun c h1 h2 => h c (by omega) (by omega) (by omega) (by omega))
theorem frH_T {M M1 : Nat → Nat → Int32} {s : Nat} (h : frH M M1) (hT : TH M s) : TH M1 s := ⟨by rw [h 53 (by decide) (by decide) (by decide) (by decide)]; exact hT.1, fun i hi => by rw [h 63 (by decide) (by decide) (by decide) (by decide)]; exact hT.2 i hi⟩
section HL
variable {S : Nat → Nat → Nat} {s st h : Nat}
/-- all that the states before j make -/
def NX (M : Nat → Nat → Int32) (S : Nat → Nat → Nat) (s st h j : Nat) : Prop := ∀ Y, Y ≤ fl S s → ((∃ X, X < j ∧ FR S s st h X ∧ PS S s X (aln S) X Y) → M 62 Y = nI 1) ∧ (¬ (∃ X, X < j ∧ FR S s st h X ∧ PS S s X (aln S) X Y) → M 62 Y = nI 0)
theorem ll_on (hW : WF S) (hs : s < 16) (hb : S 0 0 * pcn s ≤ 12) (hst : stP S s (pcn s) 0 st) : ∀ m j lx xs M, j + m = fl S s + 1 → RepM M S → TH M s → RCH M S s st h → NX M S s st h j → ∃ M1, frG2 M M1 ∧ NX M1 S s st h (fl S s + 1) ∧ ∀ d Q o2 o4 o5, Go (d + 3) 145 248 [some (.ref 53), some (.int (nI s)), o2, some (.int (nI (fl S s))), o4, o5, some (.int (nI j))] [] (HP lx xs M) Q = Go (d + 3) 145 276 [some (.ref 53), some (.int (nI s)), o2, some (.int (nI (fl S s))), o4, o5, some (.int (nI (fl S s + 1)))] [] (HP lx xs M1) Q := by
  have fl4 := fl_lt hb
  have hsf := stP_lt hb (Nat.le_refl _) (fun _ => rfl) hst
  intro m
  induction m with
  | zero =>
    intro j lx xs M hj hC hT hR hN
    have e : j = fl S s + 1 := by omega
    subst e
    refine ⟨M, fun _ _ _ _ => rfl, hN, fun d Q o2 o4 o5 => ?_⟩
    have he : (fl S s < fl S s + 1) = True := eq_true (by omega)
    rw [s_145_248]
    simp (disch := omega) only [s_145_250, s_145_251, ↓reduceIte, i_lt, he]
  | succ m ih =>
    intro j lx xs M hj hC hT hR hN
    have hjl : j ≤ fl S s := by omega
    have he : (fl S s < j) = False := eq_false (by omega)
    have e61 := hR j hjl
    by_cases hF : fr S s st h j = true
    · obtain ⟨j1, j2⟩ := FR_sub hsf h j (fr_iff.mp hF)
      obtain ⟨M1, r1, r2, r3⟩ := c_X7_goOn (lx := lx) (xs := xs) hW hs hb hst j1 j2 hC hT
      obtain ⟨M2, u1, u2, u3⟩ := ih (j + 1) lx xs M1 (by omega) (frG2_M r1 hC) (frG2_T r1 hT) (fun Y hY => by rw [r1 61 (by decide) (by decide) (by decide)]; exact hR Y hY) (fun Y hY => by
        obtain ⟨n1, n2⟩ := hN Y hY
        by_cases z : PS S s j (aln S) j Y
        · exact ⟨fun _ => (r2 Y).1 z, fun q => absurd ⟨j, by omega, fr_iff.mp hF, z⟩ q⟩
        · refine ⟨fun ⟨X, x1, x2, x3⟩ => ?_, fun q => ?_⟩
          · rw [(r2 Y).2 z]
            have xj : X ≠ j := fun e => by rw [e] at x3; exact z x3
            exact n1 ⟨X, by omega, x2, x3⟩
          · rw [(r2 Y).2 z]
            exact n2 (fun ⟨X, x1, x2⟩ => q ⟨X, by omega, x2⟩))
      refine ⟨M2, fun c h1 h2 h3 => (u1 c h1 h2 h3).trans (r1 c h1 h2 h3), u2, fun d Q o2 o4 o5 => ?_⟩
      rw [← u3, s_145_248]
      rw [hF] at e61
      simp (disch := omega) only [s_145_250, s_145_251, s_145_254, s_145_255, s_145_258, s_145_260, s_145_261, s_145_264, s_145_265, s_145_267, s_145_270, s_145_273, ↓reduceIte, i_lt, he, i_in, i_cl, true_and, e61, bI_0, Bool.true_eq_false, r3, ap_none, i_add]
    · obtain ⟨M2, u1, u2, u3⟩ := ih (j + 1) lx xs M (by omega) hC hT hR (fun Y hY => by
        obtain ⟨n1, n2⟩ := hN Y hY
        refine ⟨fun ⟨X, x1, x2, x3⟩ => ?_, fun q => n2 (fun ⟨X, x1, x2⟩ => q ⟨X, by omega, x2⟩)⟩
        have xj : X ≠ j := fun e => by rw [e] at x2; exact hF (fr_iff.mpr x2)
        exact n1 ⟨X, by omega, x2, x3⟩)
      refine ⟨M2, u1, u2, fun d Q o2 o4 o5 => ?_⟩
      rw [Bool.not_eq_true] at hF
      rw [hF] at e61
      rw [← u3, s_145_248]
      simp (disch := omega) only [s_145_250, s_145_251, s_145_254, s_145_255, s_145_258, s_145_260, s_145_261, s_145_264, s_145_265, s_145_267, s_145_270, s_145_273, ↓reduceIte, i_lt, he, i_in, i_cl, true_and, e61, bI_0, i_add]
/-- one hour of the reference -/
theorem hr_one (hW : WF S) (hs : s < 16) (hb : S 0 0 * pcn s ≤ 12) (hst : stP S s (pcn s) 0 st) {lx : Nat} {xs : Nat → Int32} {M : Nat → Nat → Int32} (hC : RepM M S) (hT : TH M s) (hR : RCH M S s st h) (hf : fr S s st h (fl S s) = false) : ∃ M1, frH M M1 ∧ RCH M1 S s st (h + 1) ∧ ∀ d Q o2 o6, Go (d + 3) 145 205 [some (.ref 53), some (.int (nI s)), o2, some (.int (nI (fl S s))), some (.int (nI 1)), some (.int (nI h)), o6] [] (HP lx xs M) Q = Go (d + 3) 145 205 [some (.ref 53), some (.int (nI s)), o2, some (.int (nI (fl S s))), some (.int (bI (mo S s st h (fl S s + 1)))), some (.int (nI (h + 1))), some (.int (nI (fl S s + 1)))] [] (HP lx xs M1) Q := by
  have fl4 := fl_lt hb
  have hsf := stP_lt hb (Nat.le_refl _) (fun _ => rfl) hst
  have he : (fl S s < fl S s + 1) = True := eq_true (by omega)
  have n1 : (nI 1 = 0) = False := by decide
  obtain ⟨N, hN⟩ : ∃ N, N = upr M 62 (mix (M 62) (fun _ => nI 0) (fl S s + 1)) := ⟨_, rfl⟩
  have nf : ∀ c, c ≠ 62 → N c = M c := fun c h1 => by rw [hN, upr_ne _ _ h1]
  have nfr : frG2 M N := fun c h1 _ _ => nf c h1
  obtain ⟨M1, r1, r2, r3⟩ := ll_on hW hs hb hst (h := h) (fl S s + 1) 0 lx xs N (by omega) (frG2_M nfr hC) (frG2_T nfr hT) (fun Y hY => by rw [nf 61 (by decide)]; exact hR Y hY) (fun Y hY => ⟨fun ⟨X, x1, _⟩ => by omega, fun _ => by rw [hN, upr_eq, mix_lt (by omega)]⟩)
  have e61 : ∀ Y, Y ≤ fl S s → M1 61 Y = bI (fr S s st h Y) := fun Y hY => by rw [r1 61 (by decide) (by decide) (by decide), nf 61 (by decide)]; exact hR Y hY
  have e62 : ∀ Y, Y ≤ fl S s → M1 62 Y = bI (fr S s st (h + 1) Y) := fun Y hY => by
    by_cases z : fr S s st (h + 1) Y = true
    · rw [z]
      obtain ⟨X, x1, x2⟩ := fr_iff.mp z
      have := sub_le (FR_sub hsf h X x1).2
      exact (r2 Y hY).1 ⟨X, by omega, x1, x2⟩
    · rw [(r2 Y hY).2 (fun ⟨X, _, x1, x2⟩ => z (fr_iff.mpr ⟨X, x1, x2⟩))]
      rw [Bool.not_eq_true] at z
      rw [z]; rfl
  refine ⟨upr M1 61 (mix (M1 61) (fun Y => bI (fr S s st (h + 1) Y)) (fl S s + 1)), fun c h1 h2 h3 h4 => ?_, fun Y hY => ?_, fun d Q o2 o6 => ?_⟩
  · rw [upr_ne _ _ h1, r1 c h2 h3 h4, nf c h2]
  · rw [upr_eq, mix_lt (by omega)]
  · have lp1 := loopN (fun j => Go (d + 3) 145 225 [some (.ref 53), some (.int (nI s)), o2, some (.int (nI (fl S s))), some (.int (nI 1)), some (.int (nI h)), some (.int (nI j))] [] (HP lx xs (upr M 62 (mix (M 62) (fun _ => nI 0) j))) Q) (fl S s + 1) fun j hj => by
      show Go (d + 3) _ 225 _ _ _ _ = Go (d + 3) _ 225 _ _ _ _
      have hj2 : (fl S s < j) = False := eq_false (by omega)
      rw [s_145_225]
      simp (disch := omega) only [s_145_227, s_145_228, s_145_231, s_145_232, s_145_235, s_145_237, s_145_238, s_145_239, s_145_242, ↓reduceIte, i_lt, hj2, i_in, i_cl, true_and, vp_f, up_upr, i_add]
      rw [mix_up (g := fun _ => nI 0)]
    try dsimp only at lp1
    rw [mix_0, upr_self, ← hN] at lp1
    have lp2 := loopN (fun j => Go (d + 3) 145 282 [some (.ref 53), some (.int (nI s)), o2, some (.int (nI (fl S s))), some (.int (bI (mo S s st h j))), some (.int (nI h)), some (.int (nI j))] [] (HP lx xs (upr M1 61 (mix (M1 61) (fun Y => bI (fr S s st (h + 1) Y)) j))) Q) (fl S s + 1) fun j hj => by
      show Go (d + 3) _ 282 _ _ _ _ = Go (d + 3) _ 282 _ _ _ _
      have hj2 : (fl S s < j) = False := eq_false (by omega)
      have a1 := e61 j (by omega)
      have a2 := e62 j (by omega)
      have ii : ¬ j < j := by omega
      have up1 : fr S s st h j = true → fr S s st (h + 1) j = true := fun z => fr_iff.mpr (FR_up (fr_iff.mp z))
      have bt : bI true = nI 1 := rfl
      have bf : bI false = nI 0 := rfl
      have mg : mix (M1 61) (fun Y => bI (fr S s st (h + 1) Y)) j j = bI (fr S s st h j) := by rw [mix_ge ii]; exact a1
      rw [← mix_up (f := M1 61) (g := fun Y => bI (fr S s st (h + 1) Y)) (j := j), mo, s_145_282]
      generalize mix (M1 61) (fun Y => bI (fr S s st (h + 1) Y)) j = mm at mg ⊢
      cases e3 : fr S s st h j with
      | true =>
        have e4 := up1 e3
        rw [e3] at mg
        rw [e4] at a2 ⊢
        cases e5 : mo S s st h j <;> simp (disch := first | omega | decide) only [s_145_284, s_145_285, s_145_288, s_145_290, s_145_293, s_145_294, s_145_297, s_145_299, s_145_300, s_145_303, s_145_304, s_145_307, s_145_309, s_145_310, s_145_313, s_145_314, s_145_317, s_145_318, s_145_320, s_145_321, s_145_324, s_145_326, s_145_327, s_145_330, s_145_332, s_145_333, s_145_336, s_145_337, s_145_340, s_145_342, s_145_343, s_145_346, s_145_347, s_145_350, s_145_351, s_145_352, s_145_355, ↓reduceIte, i_lt, hj2, i_in, i_cl, true_and, bI_0, upr_eq, upr_ne, ne_eq, not_false_eq_true, a2, mg, Bool.true_eq_false, Bool.or_true, Bool.or_false, Bool.true_or, Bool.false_or, Bool.not_true, Bool.not_false, Bool.and_true, Bool.and_false, Bool.true_and, Bool.false_and, vp_t, vp_f, bt, bf, n1, n0_0, up_upr, i_add]
      | false =>
        rw [e3] at mg
        cases e4 : fr S s st (h + 1) j with
        | true =>
          rw [e4] at a2
          cases e5 : mo S s st h j <;> simp (disch := first | omega | decide) only [s_145_284, s_145_285, s_145_288, s_145_290, s_145_293, s_145_294, s_145_297, s_145_299, s_145_300, s_145_303, s_145_304, s_145_307, s_145_309, s_145_310, s_145_313, s_145_314, s_145_317, s_145_318, s_145_320, s_145_321, s_145_324, s_145_326, s_145_327, s_145_330, s_145_332, s_145_333, s_145_336, s_145_337, s_145_340, s_145_342, s_145_343, s_145_346, s_145_347, s_145_350, s_145_351, s_145_352, s_145_355, ↓reduceIte, i_lt, hj2, i_in, i_cl, true_and, bI_0, upr_eq, upr_ne, ne_eq, not_false_eq_true, a2, mg, Bool.true_eq_false, Bool.or_true, Bool.or_false, Bool.true_or, Bool.false_or, Bool.not_true, Bool.not_false, Bool.and_true, Bool.and_false, Bool.true_and, Bool.false_and, vp_t, vp_f, bt, bf, n1, n0_0, up_upr, i_add]
        | false =>
          rw [e4] at a2
          cases e5 : mo S s st h j <;> simp (disch := first | omega | decide) only [s_145_284, s_145_285, s_145_288, s_145_290, s_145_293, s_145_294, s_145_297, s_145_299, s_145_300, s_145_303, s_145_304, s_145_307, s_145_309, s_145_310, s_145_313, s_145_314, s_145_317, s_145_318, s_145_320, s_145_321, s_145_324, s_145_326, s_145_327, s_145_330, s_145_332, s_145_333, s_145_336, s_145_337, s_145_340, s_145_342, s_145_343, s_145_346, s_145_347, s_145_350, s_145_351, s_145_352, s_145_355, ↓reduceIte, i_lt, hj2, i_in, i_cl, true_and, bI_0, upr_eq, upr_ne, ne_eq, not_false_eq_true, a2, mg, Bool.true_eq_false, Bool.or_true, Bool.or_false, Bool.true_or, Bool.false_or, Bool.not_true, Bool.not_false, Bool.and_true, Bool.and_false, Bool.true_and, Bool.false_and, vp_t, vp_f, bt, bf, n1, n0_0, up_upr, i_add]
    try dsimp only at lp2
    rw [mix_0, upr_self] at lp2
    have ef := hR (fl S s) (Nat.le_refl _)
    rw [hf] at ef
    rw [s_145_205]
    simp (disch := omega) only [s_145_207, s_145_210, s_145_211, s_145_214, s_145_215, s_145_216, s_145_219, s_145_221, s_145_222, s_145_223, ↓reduceIte, n1, i_in, i_cl, true_and, ef, bI_0]
    refine Eq.trans lp1 ?_
    rw [s_145_225]
    simp (disch := omega) only [s_145_227, s_145_228, s_145_245, s_145_246, ↓reduceIte, i_lt, he]
    refine Eq.trans (r3 d Q _ _ _) ?_
    simp (disch := omega) only [s_145_276, s_145_277, s_145_279, s_145_280]
    refine Eq.trans lp2 ?_
    rw [s_145_282]
    simp (disch := omega) only [s_145_284, s_145_285, s_145_358, s_145_361, ↓reduceIte, i_lt, he, i_add]
end HL
