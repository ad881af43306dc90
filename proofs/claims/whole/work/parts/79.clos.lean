/-! hours: what can ever be known, and the fewest hours -/
def clo (S : Nat → Nat → Nat) (s Y : Nat) : Prop := ∀ a b i, a < S 0 0 → b < S 0 0 → i < pcn s → mT S s Y a b i = false
noncomputable def off (S : Nat → Nat → Nat) (s X P : Nat) : Nat → Nat
  | 0 => 0
  | c + 1 => if (S 3 P).testBit c then off S s X P c ||| kb (pcn s) X c else off S s X P c
noncomputable def nst (S : Nat → Nat → Nat) (s X P : Nat) : Nat := X ||| (off S s X P (S 0 0) &&& lrn S s X P) * 2 ^ (P * pcn s)
noncomputable def rdn (S : Nat → Nat → Nat) (s X : Nat) : Nat → Nat
  | 0 => X
  | P + 1 => nst S s (rdn S s X P) P
theorem off_bit {S : Nat → Nat → Nat} {s X P i : Nat} : ∀ k, (off S s X P k).testBit i = true ↔ ∃ c, c < k ∧ (S 3 P).testBit c = true ∧ i < pcn s ∧ X.testBit (c * pcn s + i) = true := by
  intro k
  induction k with
  | zero => rw [off, Nat.zero_testBit]; constructor; (intro q; cases q); (rintro ⟨c, q, -⟩; omega)
  | succ k ih =>
    rw [off]
    by_cases h : (S 3 P).testBit k = true
    · rw [if_pos h, Nat.testBit_or, Bool.or_eq_true, ih, kb_bit, Bool.and_eq_true, decide_eq_true_eq]
      constructor
      · rintro (⟨c, q1, q2⟩ | q)
        · exact ⟨c, by omega, q2⟩
        · exact ⟨k, by omega, h, q⟩
      · rintro ⟨c, q1, q2, q3⟩
        by_cases z : c = k
        · rw [z] at q3; exact Or.inr q3
        · exact Or.inl ⟨c, by omega, q2, q3⟩
    · rw [if_neg h, ih]
      constructor
      · rintro ⟨c, q1, q2⟩; exact ⟨c, by omega, q2⟩
      · rintro ⟨c, q1, q2, q3⟩
        have z : c ≠ k := fun z => by rw [z] at q2; exact h q2
        exact ⟨c, by omega, q2, q3⟩
theorem cP_lt {p q : Nat → Bool} {j : Nat} (h : ∀ i, q i = true → p i = true) (hj : p j = true) (hq : q j = false) : ∀ m, (List.range m).countP q + (if j < m then 1 else 0) ≤ (List.range m).countP p := by
  intro m
  induction m with
  | zero => exact Nat.le_refl _
  | succ m ih =>
    rw [List.range_succ, List.countP_append, List.countP_append, List.countP_singleton, List.countP_singleton]
    by_cases e : j = m
    · subst e
      rw [if_pos hj, hq, if_pos (by omega : j < j + 1)]
      rw [if_neg (Nat.lt_irrefl j)] at ih
      simp only [Bool.false_eq_true, ↓reduceIte]
      omega
    · have e2 : (if j < m + 1 then 1 else 0) = (if j < m then 1 else 0) := by
        by_cases z : j < m
        · rw [if_pos z, if_pos (by omega)]
        · rw [if_neg z, if_neg (by omega)]
      rw [e2]
      by_cases z : q m = true
      · rw [if_pos z, if_pos (h m z)]; omega
      · rw [if_neg z]
        omega
theorem lk_lt {full X Y : Nat} (hf : full < 4096) (h1 : sub X Y) (h2 : sub Y full) (hne : X ≠ Y) : lk full Y + 1 ≤ lk full X := by
  have hex : ∃ j, Y.testBit j = true ∧ X.testBit j = false := by
    refine Classical.byContradiction fun q => hne (sub_as h1 fun j hj => ?_)
    refine Classical.byContradiction fun z => q ⟨j, hj, by rw [← Bool.not_eq_true]; exact z⟩
  obtain ⟨j, j1, j2⟩ := hex
  have j12 : j < 12 := tb_lt (n := 12) hf (h2 j j1)
  have := cP_lt (p := fun i => (wo full X).testBit i) (q := fun i => (wo full Y).testBit i) (j := j) (fun i hi => by
    rw [wo_bit, Bool.and_eq_true, Bool.not_eq_true'] at hi ⊢
    refine ⟨hi.1, ?_⟩
    rw [← Bool.not_eq_true]
    intro z
    rw [h1 i z] at hi
    cases hi.2) (by rw [wo_bit, h2 j j1, j2]; rfl) (by rw [wo_bit, j1]; cases full.testBit j <;> rfl) 12
  rw [if_pos j12] at this
  exact this
theorem lk_0 {full X : Nat} (hf : full < 4096) (h1 : sub X full) (h2 : lk full X = 0) : X = full := by
  refine Classical.byContradiction fun q => ?_
  have := lk_lt hf h1 (sub_rf _) q
  omega
theorem lk_12 (full X : Nat) : lk full X ≤ 12 := by
  unfold lk pcn
  exact Nat.le_trans List.countP_le_length (by rw [List.length_range]; exact Nat.le_refl _)
section CL
variable {S : Nat → Nat → Nat} {s X Y P : Nat}
theorem nst_bit (hs : s < 16) {j : Nat} : (nst S s X P).testBit j = true ↔ X.testBit j = true ∨ ∃ i c, i < pcn s ∧ c < S 0 0 ∧ j = P * pcn s + i ∧ mT S s X c P i = true := by
  unfold nst
  rw [Nat.testBit_or, Bool.or_eq_true, shl_bit, Bool.and_eq_true, decide_eq_true_eq, Nat.testBit_and, Bool.and_eq_true, off_bit, lrn_bit hs]
  constructor
  · rintro (q | ⟨q1, ⟨c, c1, c2, c3, c4⟩, q2, q3, q4⟩)
    · exact Or.inl q
    · exact Or.inr ⟨j - P * pcn s, c, c3, c1, by omega, mT_iff.mpr ⟨c4, q3, c2, q4⟩⟩
  · rintro (q | ⟨i, c, i1, c1, rfl, hm⟩)
    · exact Or.inl q
    · obtain ⟨m1, m2, m3, m4⟩ := mT_iff.mp hm
      right
      rw [Nat.add_sub_cancel_left]
      exact ⟨by omega, ⟨c, c1, m3, i1, m1⟩, i1, m2, m4⟩
theorem nst_sub (hs : s < 16) : sub X (nst S s X P) := fun j hj => (nst_bit hs).mpr (Or.inl hj)
theorem nst_fl (hs : s < 16) (hP : P < S 0 0) (h : sub X (fl S s)) : sub (nst S s X P) (fl S s) := fun j hj => by
  rcases (nst_bit hs).mp hj with q | ⟨i, c, i1, c1, e, -⟩
  · exact h j q
  · rw [e]; unfold fl; rw [tp_bit]; exact pos_lt hP i1
theorem nst_clo (hs : s < 16) (hP : P < S 0 0) (hc : clo S s Y) (h : sub X Y) : sub (nst S s X P) Y := fun j hj => by
  rcases (nst_bit hs).mp hj with q | ⟨i, c, i1, c1, e, hm⟩
  · exact h j q
  · rw [e]
    refine Classical.byContradiction fun z => ?_
    rw [Bool.not_eq_true] at z
    have := mT_mono X Y h c P i hm z
    rw [hc c P i c1 hP i1] at this
    cases this
theorem rdn_all (hs : s < 16) : ∀ k, k ≤ S 0 0 → sub X (rdn S s X k) ∧ (sub X (fl S s) → sub (rdn S s X k) (fl S s)) ∧ (∀ Y, clo S s Y → sub X Y → sub (rdn S s X k) Y) ∧ (rdn S s X k = X → ∀ P, P < k → ∀ c i, c < S 0 0 → i < pcn s → mT S s X c P i = false) := by
  intro k
  induction k with
  | zero => intro _; exact ⟨sub_rf _, fun h => h, fun _ _ h => h, fun _ P hP => by omega⟩
  | succ k ih =>
    intro hk
    obtain ⟨a1, a2, a3, a4⟩ := ih (by omega)
    rw [rdn]
    refine ⟨sub_tr a1 (nst_sub hs), fun h => nst_fl hs (by omega) (a2 h), fun Y hc h => nst_clo hs (by omega) hc (a3 Y hc h), fun e P hP c i hc hi => ?_⟩
    have e1 : rdn S s X k = X := sub_as (fun j hj => by rw [← e]; exact nst_sub hs j hj) a1
    by_cases z : P = k
    · rw [e1] at e
      rw [← Bool.not_eq_true]
      intro hm
      have hb : (nst S s X k).testBit (k * pcn s + i) = true := (nst_bit hs).mpr (Or.inr ⟨i, c, hi, hc, rfl, by rw [← z]; exact hm⟩)
      rw [e, ← z, (mT_iff.mp hm).2.1] at hb
      cases hb
    · exact a4 e1 P (by omega) c i hc hi
end CL
section CM
variable {lx : Nat} {xs : Nat → Int32} {M : Nat → Nat → Int32} {S : Nat → Nat → Nat} {s : Nat}
theorem ll_clos1 (hW : WF S) (hs : s < 16) (hb : S 0 0 * pcn s ≤ 12) (hE : SEf M S s) {o1 o3 o4 : Option Value} : ∀ m P X, P + m = S 0 0 → sub X (fl S s) → ∀ d Q o6 o7, ∃ o6' o7', Go (d + 2) 98 16 [some (.ref 35), o1, some (.int (nI (rdn S s X P))), o3, o4, some (.int (nI P)), o6, o7] [] (HP lx xs M) Q = Go (d + 2) 98 100 [some (.ref 35), o1, some (.int (nI (rdn S s X (S 0 0)))), o3, o4, some (.int (nI (S 0 0))), o6', o7'] [] (HP lx xs M) Q := by
  have w1 := hW.1
  have p := p16 hs
  have fl4 := fl_lt hb
  have e1 := hE.1
  have e2 := hE.2.1
  intro m
  induction m with
  | zero =>
    intro P X hP hX d Q o6 o7
    have e : P = S 0 0 := by omega
    subst e
    refine ⟨o6, o7, ?_⟩
    rw [s_98_16]
    simp (disch := omega) only [s_98_18, s_98_19, s_98_22, ↓reduceIte, e1, i_lt, Nat.lt_irrefl]
  | succ m ih =>
    intro P X hP hX d Q o6 o7
    have hP2 : P < S 0 0 := by omega
    have e38 := hE.2.2.2.2.2 P (by omega)
    have w6 := hW.2.2.2.2.2.1 P (by omega)
    obtain ⟨a1, a2, a3, a4⟩ := rdn_all (S := S) (X := X) hs P (by omega)
    have hY := a2 hX
    have hY4 : rdn S s X P < 4096 := Nat.lt_of_le_of_lt (sub_le hY) fl4
    obtain ⟨o6', o7', h1⟩ := ih (P + 1) X (by omega) hX d Q (some (.int (nI (off S s (rdn S s X P) P (S 0 0))))) (some (.int (nI (S 0 0))))
    refine ⟨o6', o7', ?_⟩
    rw [← h1, rdn]
    generalize rdn S s X P = Y at *
    have ol : ∀ k, off S s Y P k < 2 ^ pcn s := fun k => by
      refine Nat.lt_pow_two_of_testBit _ fun i hi => ?_
      rw [← Bool.not_eq_true, off_bit]
      rintro ⟨c, -, -, q, -⟩
      omega
    have lp := loopN (fun c => Go (d + 2) 98 31 [some (.ref 35), o1, some (.int (nI Y)), o3, o4, some (.int (nI P)), some (.int (nI (off S s Y P c))), some (.int (nI c))] [] (HP lx xs M) Q) (S 0 0) fun c hc => by
      show Go (d + 2) _ 31 _ _ _ _ = Go (d + 2) _ 31 _ _ _ _
      have kb' := fun d Q => c_X4_knownBy (d := d) (Q := Q) (lx := lx) (xs := xs) hE hs hb hc hY4
      rw [s_98_31, off]
      by_cases hh : (S 3 P).testBit c = true
      · rw [if_pos hh]
        simp (disch := omega) only [s_98_33, s_98_34, s_98_37, s_98_40, s_98_41, s_98_44, s_98_46, s_98_47, s_98_49, s_98_52, s_98_55, s_98_57, s_98_58, s_98_60, s_98_61, s_98_64, s_98_65, s_98_67, s_98_70, ↓reduceIte, e1, i_lt, hc, i_in, i_cl, true_and, e38, c_X6_has, hh, ap_some, bI_0, Bool.true_eq_false, kb', i_or, i_add]
      · rw [if_neg hh]
        rw [Bool.not_eq_true] at hh
        simp (disch := omega) only [s_98_33, s_98_34, s_98_37, s_98_40, s_98_41, s_98_44, s_98_46, s_98_47, s_98_49, s_98_52, s_98_55, s_98_57, s_98_58, s_98_60, s_98_61, s_98_64, s_98_65, s_98_67, s_98_70, ↓reduceIte, e1, i_lt, hc, i_in, i_cl, true_and, e38, c_X6_has, hh, ap_some, bI_0, i_add]
    try dsimp only at lp
    have ln := fun d Q => c_X4_learnable (d := d) (Q := Q) (lx := lx) (xs := xs) hE hs hb hP2 w1 hY4
    have hand : off S s Y P (S 0 0) &&& lrn S s Y P < 2 ^ pcn s := Nat.lt_of_le_of_lt Nat.and_le_left (ol _)
    have pw := cw_lt (s := s) hP2 hb
    have hsh : (off S s Y P (S 0 0) &&& lrn S s Y P) * 2 ^ (P * pcn s) < 4294967296 := by
      have q1 : (off S s Y P (S 0 0) &&& lrn S s Y P) * 2 ^ (P * pcn s) ≤ 16 * 2 ^ 12 := Nat.mul_le_mul (by omega) (Nat.pow_le_pow_right (by decide) pw)
      omega
    rw [s_98_16]
    simp (disch := omega) only [s_98_18, s_98_19, s_98_22, s_98_25, s_98_26, s_98_28, s_98_29, ↓reduceIte, e1, i_lt, hP2]
    refine Eq.trans lp ?_
    rw [s_98_31]
    simp (disch := first | omega | assumption) only [s_98_33, s_98_34, s_98_37, s_98_73, s_98_74, s_98_76, s_98_77, s_98_79, s_98_80, s_98_83, s_98_84, s_98_86, s_98_87, s_98_90, s_98_91, s_98_92, s_98_93, s_98_94, s_98_97, ↓reduceIte, e1, i_lt, Nat.lt_irrefl, ln, ap_some, i_and, e2, i_mul, i_shl, i_or, i_add]
    rfl
theorem c_X4_closure (hW : WF S) (hs : s < 16) (hb : S 0 0 * pcn s ≤ 12) (hE : SEf M S s) {st : Nat} (hst : sub st (fl S s)) : ∃ C, sub st C ∧ sub C (fl S s) ∧ (C = fl S s ∨ clo S s C) ∧ (∀ Y, clo S s Y → sub st Y → sub C Y) ∧ ∀ d Q, Go (d + 2) 98 0 [some (.ref 35), some (.int (nI st)), none, none, none, none, none, none] [] (HP lx xs M) Q = Q (some (.int (nI C))) (HP lx xs M) := by
  have w1 := hW.1
  have fl4 := fl_lt hb
  have lp : ∀ m r X, r + m = 12 → sub st X → sub X (fl S s) → (∀ Y, clo S s Y → sub st Y → sub X Y) → lk (fl S s) X ≤ m → ∃ C, sub st C ∧ sub C (fl S s) ∧ (C = fl S s ∨ clo S s C) ∧ (∀ Y, clo S s Y → sub st Y → sub C Y) ∧ ∀ d Q o4 o5 o6 o7, Go (d + 2) 98 4 [some (.ref 35), some (.int (nI st)), some (.int (nI X)), some (.int (nI r)), o4, o5, o6, o7] [] (HP lx xs M) Q = Q (some (.int (nI C))) (HP lx xs M) := by
    intro m
    induction m with
    | zero =>
      intro r X hr h1 h2 h3 h4
      have e : r = 12 := by omega
      subst e
      refine ⟨X, h1, h2, Or.inl (lk_0 fl4 h2 (by omega)), h3, fun d Q o4 o5 o6 o7 => ?_⟩
      rw [s_98_4]
      simp (disch := omega) only [s_98_5, s_98_7, s_98_114, s_98_115, ↓reduceIte, i_lt, Nat.lt_irrefl]
    | succ m ih =>
      intro r X hr h1 h2 h3 h4
      have hr12 : r < 12 := by omega
      obtain ⟨a1, a2, a3, a4⟩ := rdn_all (S := S) (X := X) hs (S 0 0) (Nat.le_refl _)
      have hY := a2 h2
      have hX4 : X < 4096 := Nat.lt_of_le_of_lt (sub_le h2) fl4
      have hY4 : rdn S s X (S 0 0) < 4096 := Nat.lt_of_le_of_lt (sub_le hY) fl4
      have st1 : ∀ d Q o4 o5 o6 o7, ∃ o6' o7', Go (d + 2) 98 4 [some (.ref 35), some (.int (nI st)), some (.int (nI X)), some (.int (nI r)), o4, o5, o6, o7] [] (HP lx xs M) Q = Go (d + 2) 98 100 [some (.ref 35), some (.int (nI st)), some (.int (nI (rdn S s X (S 0 0)))), some (.int (nI r)), some (.int (nI X)), some (.int (nI (S 0 0))), o6', o7'] [] (HP lx xs M) Q := by
        intro d Q o4 o5 o6 o7
        obtain ⟨o6', o7', q⟩ := ll_clos1 (lx := lx) (xs := xs) hW hs hb hE (o1 := some (.int (nI st))) (o3 := some (.int (nI r))) (o4 := some (.int (nI X))) (S 0 0) 0 X (by omega) h2 d Q o6 o7
        refine ⟨o6', o7', ?_⟩
        rw [s_98_4]
        simp (disch := omega) only [s_98_5, s_98_7, s_98_10, s_98_11, s_98_13, s_98_14, ↓reduceIte, i_lt, hr12]
        exact q
      by_cases hne : rdn S s X (S 0 0) = X
      · refine ⟨X, h1, h2, Or.inr (fun a b i ha hb' hi => a4 hne b hb' a i ha hi), h3, fun d Q o4 o5 o6 o7 => ?_⟩
        obtain ⟨o6', o7', q⟩ := st1 d Q o4 o5 o6 o7
        rw [q, hne]
        simp (disch := omega) only [s_98_100, s_98_101, s_98_103, s_98_106, s_98_107, ↓reduceIte]
      · have hl := lk_lt fl4 a1 hY (fun z => hne z.symm)
        obtain ⟨C, c1, c2, c3, c4, c5⟩ := ih (r + 1) (rdn S s X (S 0 0)) (by omega) (sub_tr h1 a1) hY (fun Y hc hs' => a3 Y hc (h3 Y hc hs')) (by omega)
        refine ⟨C, c1, c2, c3, c4, fun d Q o4 o5 o6 o7 => ?_⟩
        obtain ⟨o6', o7', q⟩ := st1 d Q o4 o5 o6 o7
        have hne' : (rdn S s X (S 0 0) = X) = False := eq_false hne
        rw [q]
        simp (disch := omega) only [s_98_100, s_98_101, s_98_103, s_98_106, s_98_107, s_98_108, s_98_111, ↓reduceIte, i_eq, hne', i_add]
        exact c5 d Q _ _ _ _
  obtain ⟨C, c1, c2, c3, c4, c5⟩ := lp 12 0 st (by omega) (sub_rf _) hst (fun Y _ h => h) (lk_12 _ _)
  refine ⟨C, c1, c2, c3, c4, fun d Q => ?_⟩
  simp only [s_98_0, s_98_1, s_98_2, s_98_3]
  exact c5 d Q _ _ _ _
/-- what is closed holds all that comes -/
theorem clo_Rh {C : Nat} (hc : clo S s C) : ∀ h X, sub X C → RH S s h X → sub (fl S s) C := by
  intro h
  induction h with
  | zero => intro X hX hR; have hR : X = fl S s := hR; rw [← hR]; exact hX
  | succ h ih =>
    intro X hX hR
    obtain ⟨l, hl, hR⟩ := hR
    refine ih _ (fun j hj => ?_) hR
    rcases (val_bit l X).mp hj with q | ⟨x, x1, x2⟩
    · exact hX j q
    · have key : ∀ l F, sub F (aln S) → MTS S s X F l → ∀ x, x ∈ l → x.1 < S 0 0 ∧ x.2.1 < S 0 0 ∧ x.2.2 < pcn s ∧ mT S s X x.1 x.2.1 x.2.2 = true := by
        intro l
        induction l with
        | nil => intro F _ _ x hx; cases hx
        | cons y l ihl =>
          intro F hF hl x hx
          obtain ⟨b1, b2, b3, b4, b5, b6⟩ := hl
          rcases List.mem_cons.mp hx with z | z
          · rw [z]
            have q1 := hF _ b1
            have q2 := hF _ b2
            unfold aln at q1 q2
            exact ⟨tp_bit.mp q1, tp_bit.mp q2, b4, b5⟩
          · exact ihl _ (sub_tr (wo_sub _ _) (sub_tr (wo_sub _ _) hF)) b6 x z
      obtain ⟨k1, k2, k3, k4⟩ := key l _ (sub_rf _) hl x x1
      rw [x2]
      refine Classical.byContradiction fun z => ?_
      rw [Bool.not_eq_true] at z
      have := mT_mono X C hX _ _ _ k4 z
      rw [hc _ _ _ k1 k2 k3] at this
      cases this
theorem all_Rh (hb : S 0 0 * pcn s ≤ 12) {st : Nat} (hcl : ∀ Y, clo S s Y → sub st Y → sub (fl S s) Y) : ∀ k X, lk (fl S s) X ≤ k → sub st X → sub X (fl S s) → RH S s k X := by
  have fl4 := fl_lt hb
  intro k
  induction k with
  | zero => intro X h1 h2 h3; exact lk_0 fl4 h3 (by omega)
  | succ k ih =>
    intro X h1 h2 h3
    by_cases e : X = fl S s
    · exact Rh_le (h := 0) e (k + 1) (by omega)
    · have hn : ¬ clo S s X := fun q => e (sub_as h3 (hcl X q h2))
      have hex : ∃ a b i, a < S 0 0 ∧ b < S 0 0 ∧ i < pcn s ∧ mT S s X a b i = true := by
        refine Classical.byContradiction fun q => hn fun a b i ha hb' hi => ?_
        rw [← Bool.not_eq_true]
        exact fun z => q ⟨a, b, i, ha, hb', hi, z⟩
      obtain ⟨a, b, i, ha, hb', hi, hm⟩ := hex
      have hm' := mT_iff.mp hm
      have hab : a ≠ b := fun z => by rw [z] at hm'; rw [hm'.1] at hm'; cases hm'.2.1
      have hl : MTS S s X (aln S) [(a, b, i)] := ⟨by unfold aln; exact tp_bit.mpr ha, by unfold aln; exact tp_bit.mpr hb', hab, hi, hm, trivial⟩
      refine ⟨[(a, b, i)], hl, ih _ ?_ (sub_tr h2 (val_sub _ _)) (val_full (fun b i => fl_al) _ _ _ (sub_rf _) hl h3)⟩
      have := lk_lt fl4 (val_sub (w := pcn s) [(a, b, i)] X) (val_full (fun b i => fl_al) _ _ _ (sub_rf _) hl h3) (fun z => by
        have q : (val (pcn s) X [(a, b, i)]).testBit (b * pcn s + i) = true := (val_bit _ _).mpr (Or.inr ⟨(a, b, i), List.mem_cons_self, rfl⟩)
        rw [← z, hm'.2.1] at q
        cases q)
      omega
/-- fewest: the class -/
theorem c_X4_fewest (hW : WF S) (hs : s < 16) (hb : S 0 0 * pcn s ≤ 12) (hR : RepC M 2 S) : ∃ M1 X, stP S s (pcn s) 0 X ∧ (∀ c, c < 35 ∨ 41 < c → M1 c = M c) ∧ ((∃ h, RH S s h X ∧ (∀ k, k < h → ¬ RH S s k X) ∧ h ≤ 12 ∧ ∀ D Q, 260 ≤ D → Go D 93 0 [some (.ref 35), some (.ref 2), some (.int (nI s)), none, none] [] (HP lx xs M) Q = Q (some (.int (nI h))) (HP lx xs M1)) ∨ ((∀ h, ¬ RH S s h X) ∧ ∀ D Q, 260 ≤ D → Go D 93 0 [some (.ref 35), some (.ref 2), some (.int (nI s)), none, none] [] (HP lx xs M) Q = Q (some (.int (-4))) (HP lx xs M1))) := by
  have w1 := hW.1
  have fl4 := fl_lt hb
  obtain ⟨M1, X, r1, r2, r3, r4⟩ := c_X4_load (lx := lx) (xs := xs) hW hs hb hR
  have hX := stP_lt hb (Nat.le_refl _) (fun _ => rfl) r3
  have hX4 : X < 4096 := Nat.lt_of_le_of_lt (sub_le hX) fl4
  have e3 := r2.2.2.1
  by_cases hf : X = fl S s
  · refine ⟨M1, X, r3, fun c hc => r1 c (by omega), Or.inl ⟨0, hf, fun k hk => by omega, by omega, fun D Q hD => ?_⟩⟩
    obtain ⟨D', rfl⟩ : ∃ D', D = D' + 3 := ⟨D - 3, by omega⟩
    rw [hf] at r4
    rw [show D' + 3 = D' + 2 + 1 from rfl]
    simp (disch := omega) only [s_93_0, s_93_1, s_93_2, s_93_3, s_93_6, s_93_7, s_93_8, s_93_9, s_93_12, s_93_15, s_93_16, ↓reduceIte, r4, ap_some, e3]
  · have hf' : (X = fl S s) = False := eq_false hf
    obtain ⟨C, c1, c2, c3, c4, c5⟩ := c_X4_closure (lx := lx) (xs := xs) hW hs hb r2 hX
    have hC4 : C < 4096 := Nat.lt_of_le_of_lt (sub_le c2) fl4
    by_cases hC : C = fl S s
    · -- by ever more hours
      obtain ⟨N, hN⟩ : ∃ N, N = upr M1 41 (mix (M1 41) (fun _ => nI 0) 4096) := ⟨_, rfl⟩
      have nf : ∀ c, c ≠ 41 → N c = M1 c := fun c hc => by rw [hN, upr_ne _ _ hc]
      have hinv : INVs N S s := by
        obtain ⟨q1, q2, q3, q4, q5, q6⟩ := r2
        refine ⟨⟨by rw [nf _ (by decide)]; exact q1, by rw [nf _ (by decide)]; exact q2, by rw [nf _ (by decide)]; exact q3, by rw [nf _ (by decide)]; exact q4, by rw [nf _ (by decide)]; exact q5, by rw [nf _ (by decide)]; exact q6⟩, fun Y hY hYf => ⟨0, by omega, ?_, hYf⟩⟩
        rw [hN, upr_eq, mix_lt (Nat.lt_of_le_of_lt (sub_le hY) fl4)]
      have h12 : RH S s 12 X := all_Rh hb (fun Y hc hsY => by rw [← hC]; exact c4 Y hc hsY) 12 X (lk_12 _ _) (sub_rf _) hX
      have lp : ∀ m h M, h + m = 13 → INVs M S s → (∀ k, k < h → ¬ RH S s k X) → ∃ M2 h2, (∀ c, c < 39 ∨ 41 < c → M2 c = M c) ∧ RH S s h2 X ∧ (∀ k, k < h2 → ¬ RH S s k X) ∧ h2 ≤ 12 ∧ ∀ D Q, 250 ≤ D → Go (D + 1) 93 43 [some (.ref 35), some (.ref 2), some (.int (nI s)), some (.int (nI X)), some (.int (nI h))] [] (HP lx xs M) Q = Q (some (.int (nI h2))) (HP lx xs M2) := by
        intro m
        induction m with
        | zero => intro h M hh _ hk; exact absurd h12 (hk 12 (by omega))
        | succ m ih =>
          intro h M hh hinv hk
          obtain ⟨M2, b, u1, u2, u3, u4⟩ := IE_all hW hs hb h (by omega) lx xs M X hinv hX
          have hle : ¬ 12 < h := by omega
          cases b with
          | true =>
            refine ⟨M2, h, fun c hc => u2.1 c (by omega) (by omega) (by omega), u3.mp rfl, hk, by omega, fun D Q hD => ?_⟩
            have u5 := fun Q => u4 D Q (by omega)
            rw [s_93_43]
            simp (disch := omega) only [s_93_45, s_93_47, s_93_50, s_93_51, s_93_53, s_93_54, s_93_57, s_93_60, s_93_62, ↓reduceIte, i_lt, hle, u5, ap_some, bI_0, Bool.true_eq_false]
          | false =>
            obtain ⟨M3, h2, v1, v2, v3, v4, v5⟩ := ih (h + 1) M2 (by omega) u1 (fun k hk2 => by
              by_cases z : k = h
              · rw [z]; intro q; have := u3.mpr q; cases this
              · exact hk k (by omega))
            refine ⟨M3, h2, fun c hc => (v1 c hc).trans (u2.1 c (by omega) (by omega) (by omega)), v2, v3, v4, fun D Q hD => ?_⟩
            have u5 := fun Q => u4 D Q (by omega)
            rw [s_93_43]
            simp (disch := omega) only [s_93_45, s_93_47, s_93_50, s_93_51, s_93_53, s_93_54, s_93_57, s_93_60, s_93_62, s_93_63, s_93_66, ↓reduceIte, i_lt, hle, u5, ap_some, bI_0, i_add]
            exact v5 D Q hD
      obtain ⟨M2, h2, v1, v2, v3, v4, v5⟩ := lp 12 1 N (by omega) hinv (fun k hk q => by
        rw [show k = 0 by omega] at q
        exact hf q)
      refine ⟨M2, X, r3, fun c hc => by rw [v1 c (by omega), nf c (by omega)]; exact r1 c (by omega), Or.inl ⟨h2, v2, v3, v4, fun D Q hD => ?_⟩⟩
      obtain ⟨D', rfl⟩ : ∃ D', D = D' + 3 := ⟨D - 3, by omega⟩
      have v6 := v5 (D' + 2) Q (by omega)
      rw [hN] at v6
      rw [hC] at c5
      rw [show D' + 3 = D' + 2 + 1 from rfl]
      simp (disch := omega) only [s_93_0, s_93_1, s_93_2, s_93_3, s_93_6, s_93_7, s_93_8, s_93_9, s_93_12, s_93_15, s_93_16, s_93_17, s_93_18, s_93_19, s_93_22, s_93_23, s_93_26, s_93_29, s_93_31, s_93_32, s_93_33, s_93_36, s_93_37, s_93_40, s_93_41, ↓reduceIte, r4, ap_some, ap_none, e3, i_eq, hf', c5, c_fill41]
      exact v6
    · have hC' : (C = fl S s) = False := eq_false hC
      have hclo := c3.resolve_left hC
      refine ⟨M1, X, r3, fun c hc => r1 c (by omega), Or.inr ⟨fun h hR' => hC (sub_as c2 (clo_Rh hclo h X c1 hR')), fun D Q hD => ?_⟩⟩
      obtain ⟨D', rfl⟩ : ∃ D', D = D' + 3 := ⟨D - 3, by omega⟩
      rw [show D' + 3 = D' + 2 + 1 from rfl]
      simp (disch := omega) only [s_93_0, s_93_1, s_93_2, s_93_3, s_93_6, s_93_7, s_93_8, s_93_9, s_93_12, s_93_15, s_93_16, s_93_17, s_93_18, s_93_19, s_93_22, s_93_23, s_93_26, s_93_29, s_93_31, ↓reduceIte, r4, ap_some, e3, i_eq, hf', c5, hC']
end CM
