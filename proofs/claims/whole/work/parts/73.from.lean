/-! from: the first way -/
theorem fm_head {f : Nat → List (Nat → Nat)} {q : (Nat → Nat) → Bool} : ∀ V a r, (V.flatMap f).filter q = a :: r → ∃ Vp v Vs, V = Vp ++ v :: Vs ∧ (∀ u, u ∈ Vp → (f u).filter q = []) ∧ ∃ r', (f v).filter q = a :: r' := by
  intro V
  induction V with
  | nil => intro a r h; cases h
  | cons v V ih =>
    intro a r h
    rw [List.flatMap_cons, List.filter_append] at h
    cases hf : (f v).filter q with
    | nil =>
      rw [hf, List.nil_append] at h
      obtain ⟨Vp, v2, Vs, e1, e2, e3⟩ := ih a r h
      refine ⟨v :: Vp, v2, Vs, by rw [e1]; rfl, fun u hu => ?_, e3⟩
      rcases List.mem_cons.mp hu with z | z
      · rw [z]; exact hf
      · exact e2 u z
    | cons b t =>
      rw [hf] at h
      have eb : b = a := (List.cons.inj h).1
      exact ⟨[], v, V, rfl, fun u hu => (by cases hu), t, by rw [hf, eb]⟩
theorem en_lex {V : List Nat} {q : (Nat → Nat) → Bool} {pos : Nat → Nat} (hpos : ∀ i u, V[i]? = some u → pos u = i) : ∀ l g gs r, l.Nodup → (en V l g).filter q = gs :: r → ∀ pre c l', l = pre ++ c :: l' → ∀ h, h ∈ en V l g → q h = true → (∀ x, x ∈ pre → h x = gs x) → pos (gs c) ≤ pos (h c) := by
  intro l
  induction l with
  | nil => intro g gs r _ _ pre c l' e; cases pre <;> cases e
  | cons c0 l0 ih =>
    intro g gs r hn hf pre c l' e h hh hq hp
    have hc0 : c0 ∉ l0 := (List.nodup_cons.mp hn).1
    rw [en] at hf
    obtain ⟨Vp, v, Vs, e1, e2, r', e3⟩ := fm_head V gs r hf
    have gsm : gs ∈ en V l0 (fu g c0 v) := (List.mem_filter.mp (by rw [e3]; exact List.mem_cons_self : gs ∈ (en V l0 (fu g c0 v)).filter q)).1
    have gs0 : gs c0 = v := by rw [((mem_en _ _).mp gsm).2 c0 hc0, fu_at]
    obtain ⟨m1, m2⟩ := (mem_en _ _).mp hh
    have hin : h ∈ en V l0 (fu g c0 (h c0)) := (mem_en _ _).mpr ⟨fun x hx => m1 x (List.mem_cons_of_mem _ hx), fun x hx => by
      by_cases z : x = c0
      · rw [z, fu_at]
      · rw [fu_off z]
        exact m2 x (fun y => by rcases List.mem_cons.mp y with y | y; exact z y; exact hx y)⟩
    cases pre with
    | nil =>
      cases e
      rw [gs0]
      have pv : pos v = Vp.length := hpos Vp.length v (by rw [e1, List.getElem?_append_right (Nat.le_refl _), Nat.sub_self]; rfl)
      rw [pv]
      refine Nat.not_lt.mp fun hlt => ?_
      obtain ⟨i, hi⟩ := List.getElem?_of_mem (m1 c0 List.mem_cons_self)
      have pi := hpos i _ hi
      rw [e1, List.getElem?_append_left (by omega)] at hi
      have hemp := e2 _ (List.mem_of_getElem? hi)
      have : h ∈ (en V l0 (fu g c0 (h c0))).filter q := List.mem_filter.mpr ⟨hin, hq⟩
      rw [hemp] at this
      cases this
    | cons c1 pre' =>
      have ec : c0 = c1 := (List.cons.inj e).1
      have el : l0 = pre' ++ c :: l' := (List.cons.inj e).2
      have h0 : h c0 = v := by rw [hp c0 (by rw [ec]; exact List.mem_cons_self), gs0]
      rw [h0] at hin
      exact ih (fu g c0 v) gs r' (List.nodup_cons.mp hn).2 e3 pre' c l' el h hin hq (fun x hx => hp x (List.mem_cons_of_mem _ hx))
def WS (K : Nat) (src : Nat → Nat) (R : Nat) (g : Nat → Nat) : Prop := vld src (wlK K) g = true ∧ ∃ r, R.testBit r = true ∧ K.testBit r = true ∧ g r = 9
section FR
variable {src : Nat → Nat} {K R c p : Nat} {g : Nat → Nat}
theorem vld_iff : vld src (wlK K) g = true ↔ (∀ x, x ∈ wlK K → g x = 9 ∨ (src x).testBit (g x) = true) ∧ rts (wlK K) g = 1 ∧ acy (wlK K) g = true := by
  unfold vld okg
  rw [Bool.and_eq_true, Bool.and_eq_true, List.all_eq_true, beq_iff_eq]
  constructor
  · rintro ⟨a, b⟩
    refine ⟨fun x hx => ?_, b⟩
    have := a x hx
    rw [Bool.or_eq_true, beq_iff_eq] at this
    exact this
  · rintro ⟨a, b⟩
    exact ⟨fun x hx => by rw [Bool.or_eq_true, beq_iff_eq]; exact a x hx, b⟩
theorem EX_iff (hK : K < 64) (hs : ∀ c p, (src c).testBit p = true → K.testBit p = true) (h0 : ∀ c, K.testBit c = false → src c = 0) : ¬ mskn (fmf src K R) 6 = 0 ↔ ∃ g, WS K src R g := by
  constructor
  · intro h
    obtain ⟨i, hi⟩ := Nat.exists_testBit_of_ne_zero h
    rw [mskn_bit] at hi
    unfold fmf at hi
    simp only [Bool.and_eq_true, decide_eq_true_eq] at hi
    obtain ⟨i6, iR, ir⟩ := hi
    by_cases iK : K.testBit i = true
    · obtain ⟨g, g1, g2⟩ := (reach_iff hK hs h0 iK).mp ir
      exact ⟨g, g1, i, iR, iK, g2⟩
    · exfalso
      have : (rrn src 5 (2 ^ i)).testBit i = true := rrn_mono Nat.testBit_two_pow_self 5
      rw [ir] at this
      exact iK this
  · rintro ⟨g, g1, r, r1, r2, r3⟩ h
    have hb : (mskn (fmf src K R) 6).testBit r = true := by
      rw [mskn_bit]
      unfold fmf
      simp only [Bool.and_eq_true, decide_eq_true_eq]
      exact ⟨tb_lt (n := 6) hK r2, r1, (reach_iff hK hs h0 r2).mpr ⟨g, g1, r3⟩⟩
    rw [h, Nat.zero_testBit] at hb
    cases hb
theorem bit_p {a b : Nat} (h : (2 ^ a).testBit b = true) : b = a := by
  by_cases q : b = a
  · exact q
  · rw [Nat.testBit_two_pow_of_ne (fun z => q z.symm)] at h; cases h
theorem WS_set (hK : K < 64) (h64 : ∀ c, src c < 64) (hc : K.testBit c = true) (hp : (src c).testBit p = true) : WS K (fu src c (2 ^ p)) (wo R (2 ^ c)) g ↔ WS K src R g ∧ g c = p := by
  have c6 : c < 6 := tb_lt (n := 6) hK hc
  have p6 : p < 6 := tb_lt (n := 6) (h64 c) hp
  have cm : c ∈ wlK K := wlK_mem.mpr ⟨c6, hc⟩
  unfold WS
  rw [vld_iff, vld_iff]
  constructor
  · rintro ⟨⟨a1, a2, a3⟩, r, r1, r2, r3⟩
    rw [wo_bit, Bool.and_eq_true, Bool.not_eq_true'] at r1
    have rm : r ∈ wlK K := wlK_mem.mpr ⟨tb_lt (n := 6) hK r2, r2⟩
    have hrc : r ≠ c := fun z => by rw [z, Nat.testBit_two_pow_self] at r1; cases r1.2
    have gc : g c = p := by
      rcases a1 c cm with q | q
      · exact absurd (rts_two a2 rm cm r3 q) hrc
      · rw [fu_at] at q; exact bit_p q
    refine ⟨⟨⟨fun x hx => ?_, a2, a3⟩, r, r1.1, r2, r3⟩, gc⟩
    by_cases z : x = c
    · subst z; right; rw [gc]; exact hp
    · have := a1 x hx; rw [fu_off z] at this; exact this
  · rintro ⟨⟨⟨a1, a2, a3⟩, r, r1, r2, r3⟩, gc⟩
    have hrc : r ≠ c := fun z => by rw [z, gc] at r3; omega
    refine ⟨⟨fun x hx => ?_, a2, a3⟩, r, ?_, r2, r3⟩
    · by_cases z : x = c
      · subst z; right; rw [fu_at, gc]; exact Nat.testBit_two_pow_self
      · rw [fu_off z]; exact a1 x hx
    · rw [wo_bit, r1, Nat.testBit_two_pow_of_ne (fun z => hrc z.symm)]; rfl
theorem WS_nil (hK : K < 64) (hc : K.testBit c = true) : WS K (fu src c 0) (R &&& 2 ^ c) g ↔ WS K src R g ∧ g c = 9 := by
  have c6 : c < 6 := tb_lt (n := 6) hK hc
  have cm : c ∈ wlK K := wlK_mem.mpr ⟨c6, hc⟩
  unfold WS
  rw [vld_iff, vld_iff]
  constructor
  · rintro ⟨⟨a1, a2, a3⟩, r, r1, r2, r3⟩
    rw [Nat.testBit_and, Bool.and_eq_true] at r1
    have gc : g c = 9 := by
      rcases a1 c cm with q | q
      · exact q
      · rw [fu_at, Nat.zero_testBit] at q; cases q
    refine ⟨⟨⟨fun x hx => ?_, a2, a3⟩, r, r1.1, r2, r3⟩, gc⟩
    by_cases z : x = c
    · subst z; left; exact gc
    · have := a1 x hx; rw [fu_off z] at this; exact this
  · rintro ⟨⟨⟨a1, a2, a3⟩, r, r1, r2, r3⟩, gc⟩
    have rm : r ∈ wlK K := wlK_mem.mpr ⟨tb_lt (n := 6) hK r2, r2⟩
    have hrc : r = c := rts_two a2 rm cm r3 gc
    refine ⟨⟨fun x hx => ?_, a2, a3⟩, r, ?_, r2, r3⟩
    · by_cases z : x = c
      · subst z; left; exact gc
      · rw [fu_off z]; exact a1 x hx
    · rw [Nat.testBit_and, r1, hrc, Nat.testBit_two_pow_self]; rfl
end FR
section SE
variable {d : Nat} {Q : Option Value → ex_H → Prop} {lx : Nat} {xs : Nat → Int32} {M : Nat → Nat → Int32} {src : Nat → Nat} {K R c : Nat}
theorem ll_settle (h64 : ∀ c, src c < 64) (hK : K < 64) (hR : R < 64) (hc : c < 6) : ∀ n p M, p + n = 6 → M 42 1 = nI K → M 42 2 = nI (wo R (2 ^ c)) → (∀ x, x < 6 → x ≠ c → M 43 x = nI (src x)) → (∀ p', p' < p → (src c).testBit p' = true → mskn (fmf (fu src c (2 ^ p')) K (wo R (2 ^ c))) 6 = 0) →
  (∃ p0, p0 < 6 ∧ (src c).testBit p0 = true ∧ ¬ mskn (fmf (fu src c (2 ^ p0)) K (wo R (2 ^ c))) 6 = 0 ∧ (∀ p', p' < p0 → (src c).testBit p' = true → mskn (fmf (fu src c (2 ^ p')) K (wo R (2 ^ c))) 6 = 0) ∧ ∃ M1, (∀ x, x ≠ 43 → M1 x = M x) ∧ (∀ x, x < 6 → M1 43 x = nI (fu src c (2 ^ p0) x)) ∧ ∀ d Q, Go (d + 2) 112 29 [some (.ref 42), some (.int (nI c)), some (.int (nI (src c))), some (.int (nI R)), some (.int (nI p))] [] (HP lx xs M) Q = Q (some (.int (nI p0))) (HP lx xs M1)) ∨
  ((∀ p', p' < 6 → (src c).testBit p' = true → mskn (fmf (fu src c (2 ^ p')) K (wo R (2 ^ c))) 6 = 0) ∧ ∃ M1, (∀ x, x ≠ 42 → x ≠ 43 → M1 x = M x) ∧ RU M1 K (R &&& 2 ^ c) (fu src c 0) ∧ ∀ d Q, Go (d + 2) 112 29 [some (.ref 42), some (.int (nI c)), some (.int (nI (src c))), some (.int (nI R)), some (.int (nI p))] [] (HP lx xs M) Q = Q (some (.int (nI 9))) (HP lx xs M1)) := by
  intro n
  induction n with
  | zero =>
    intro p M hp h1 h2 h3 hm
    have e : p = 6 := by omega
    subst e
    right
    refine ⟨hm, up (up M 43 c (nI 0)) 42 2 (nI (R &&& 2 ^ c)), fun x q1 q2 => by rw [up_ne _ _ _ q1, up_ne _ _ _ q2], ⟨by rw [up_off (by decide), up_ne _ _ _ (by decide)]; exact h1, up_at, fun x hx => ?_⟩, fun d Q => ?_⟩
    · rw [up_ne _ _ _ (by decide)]
      by_cases z : x = c
      · subst z; rw [up_at, fu_at]
      · rw [up_off z, fu_off z]; exact h3 x hx z
    · rw [s_112_29]
      simp (disch := omega) only [s_112_31, s_112_33, s_112_74, s_112_75, s_112_78, s_112_79, s_112_80, s_112_81, s_112_82, s_112_83, s_112_84, s_112_85, s_112_86, s_112_87, s_112_90, s_112_92, ↓reduceIte, i_lt, Nat.lt_irrefl, i_in, i_cl, true_and, i_1s, i_and]
  | succ n ih =>
    intro p M hp h1 h2 h3 hm
    have hp6 : p < 6 := by omega
    have hs := h64 c
    by_cases hb : (src c).testBit p = true
    · have hU : RU (up M 43 c (nI (2 ^ p))) K (wo R (2 ^ c)) (fu src c (2 ^ p)) := ⟨by rw [up_ne _ _ _ (by decide)]; exact h1, by rw [up_ne _ _ _ (by decide)]; exact h2, fun x hx => by
        by_cases z : x = c
        · subst z; rw [up_at, fu_at]
        · rw [up_off z, fu_off z]; exact h3 x hx z⟩
      have h2p : 2 ^ p < 64 := Nat.pow_lt_pow_right (by decide) hp6
      have f64 : ∀ x, fu src c (2 ^ p) x < 64 := fun x => by
        unfold fu; split
        · exact h2p
        · exact h64 x
      have fm := fun d Q => c_X2_firstMouths (d := d) (Q := Q) (lx := lx) (xs := xs) hU f64 hK (wo_64 hR)
      have ml := mskn_lt (fmf (fu src c (2 ^ p)) K (wo R (2 ^ c))) 6
      by_cases hz : mskn (fmf (fu src c (2 ^ p)) K (wo R (2 ^ c))) 6 = 0
      · have st : ∀ d Q, Go (d + 2) 112 29 [some (.ref 42), some (.int (nI c)), some (.int (nI (src c))), some (.int (nI R)), some (.int (nI p))] [] (HP lx xs M) Q = Go (d + 2) 112 29 [some (.ref 42), some (.int (nI c)), some (.int (nI (src c))), some (.int (nI R)), some (.int (nI (p + 1)))] [] (HP lx xs (up M 43 c (nI (2 ^ p)))) Q := fun d Q => by
          rw [s_112_29]
          simp (disch := omega) only [s_112_31, s_112_33, s_112_36, s_112_37, s_112_39, s_112_42, s_112_45, s_112_48, s_112_49, s_112_52, s_112_53, s_112_54, s_112_56, s_112_57, s_112_58, s_112_59, s_112_62, s_112_65, s_112_67, s_112_68, s_112_71, ↓reduceIte, i_lt, hp6, c_X6_has, hb, ap_some, bI_0, Bool.true_eq_false, i_1s, i_in, i_cl, true_and, fm, i_e0, hz, i_add]
        rcases ih (p + 1) (up M 43 c (nI (2 ^ p))) (by omega) (by rw [up_ne _ _ _ (by decide)]; exact h1) (by rw [up_ne _ _ _ (by decide)]; exact h2) (fun x hx hxc => by rw [up_off hxc]; exact h3 x hx hxc) (fun p' hp' hb' => by
          by_cases z : p' = p
          · rw [z]; exact hz
          · exact hm p' (by omega) hb') with ⟨p0, a1, a2, a3, a4, M1, a5, a6, a7⟩ | ⟨b1, M1, b2, b3, b4⟩
        · exact Or.inl ⟨p0, a1, a2, a3, a4, M1, fun x hx => (a5 x hx).trans (up_ne _ _ _ hx), a6, fun d Q => by rw [st, a7]⟩
        · exact Or.inr ⟨b1, M1, fun x q1 q2 => (b2 x q1 q2).trans (up_ne _ _ _ q2), b3, fun d Q => by rw [st, b4]⟩
      · left
        refine ⟨p, hp6, hb, hz, hm, up M 43 c (nI (2 ^ p)), fun x hx => up_ne _ _ _ hx, hU.2.2, fun d Q => ?_⟩
        rw [s_112_29]
        simp (disch := omega) only [s_112_31, s_112_33, s_112_36, s_112_37, s_112_39, s_112_42, s_112_45, s_112_48, s_112_49, s_112_52, s_112_53, s_112_54, s_112_56, s_112_57, s_112_58, s_112_59, s_112_62, s_112_65, s_112_67, s_112_68, s_112_71, ↓reduceIte, i_lt, hp6, c_X6_has, hb, ap_some, bI_0, Bool.true_eq_false, i_1s, i_in, i_cl, true_and, fm, i_e0, hz]
    · have hb2 := hb
      rw [Bool.not_eq_true] at hb
      have st : ∀ d Q, Go (d + 2) 112 29 [some (.ref 42), some (.int (nI c)), some (.int (nI (src c))), some (.int (nI R)), some (.int (nI p))] [] (HP lx xs M) Q = Go (d + 2) 112 29 [some (.ref 42), some (.int (nI c)), some (.int (nI (src c))), some (.int (nI R)), some (.int (nI (p + 1)))] [] (HP lx xs M) Q := fun d Q => by
        rw [s_112_29]
        simp (disch := omega) only [s_112_31, s_112_33, s_112_36, s_112_37, s_112_39, s_112_42, s_112_45, s_112_68, s_112_71, ↓reduceIte, i_lt, hp6, c_X6_has, hb, ap_some, bI_0, i_add]
      rcases ih (p + 1) M (by omega) h1 h2 h3 (fun p' hp' hb' => by
        by_cases z : p' = p
        · rw [z] at hb'; exact absurd hb' hb2
        · exact hm p' (by omega) hb') with ⟨p0, a1, a2, a3, a4, M1, a5, a6, a7⟩ | ⟨b1, M1, b2, b3, b4⟩
      · exact Or.inl ⟨p0, a1, a2, a3, a4, M1, a5, a6, fun d Q => by rw [st, a7]⟩
      · exact Or.inr ⟨b1, M1, b2, b3, fun d Q => by rw [st, b4]⟩
/-- settle: the lowest source with which a way is left -/
theorem c_X2_settle (hU : RU M K R src) (h64 : ∀ c, src c < 64) (hK : K < 64) (hR : R < 64) (hc : c < 6) :
  (∃ p0, p0 < 6 ∧ (src c).testBit p0 = true ∧ ¬ mskn (fmf (fu src c (2 ^ p0)) K (wo R (2 ^ c))) 6 = 0 ∧ (∀ p', p' < p0 → (src c).testBit p' = true → mskn (fmf (fu src c (2 ^ p')) K (wo R (2 ^ c))) 6 = 0) ∧ ∃ M1, (∀ x, x ≠ 42 → x ≠ 43 → M1 x = M x) ∧ RU M1 K (wo R (2 ^ c)) (fu src c (2 ^ p0)) ∧ ∀ d Q, Go (d + 2) 112 0 [some (.ref 42), some (.int (nI c)), none, none, none] [] (HP lx xs M) Q = Q (some (.int (nI p0))) (HP lx xs M1)) ∨
  ((∀ p', p' < 6 → (src c).testBit p' = true → mskn (fmf (fu src c (2 ^ p')) K (wo R (2 ^ c))) 6 = 0) ∧ ∃ M1, (∀ x, x ≠ 42 → x ≠ 43 → M1 x = M x) ∧ RU M1 K (R &&& 2 ^ c) (fu src c 0) ∧ ∀ d Q, Go (d + 2) 112 0 [some (.ref 42), some (.int (nI c)), none, none, none] [] (HP lx xs M) Q = Q (some (.int (nI 9))) (HP lx xs M1)) := by
  obtain ⟨u1, u2, u3⟩ := hU
  have e43 := u3 c hc
  have st : ∀ d Q, Go (d + 2) 112 0 [some (.ref 42), some (.int (nI c)), none, none, none] [] (HP lx xs M) Q = Go (d + 2) 112 29 [some (.ref 42), some (.int (nI c)), some (.int (nI (src c))), some (.int (nI R)), some (.int (nI 0))] [] (HP lx xs (up M 42 2 (nI (wo R (2 ^ c))))) Q := fun d Q => by
    simp (disch := omega) only [s_112_0, s_112_1, s_112_4, s_112_5, s_112_6, s_112_7, s_112_8, s_112_11, s_112_12, s_112_13, s_112_14, s_112_17, s_112_18, s_112_19, s_112_20, s_112_21, s_112_22, s_112_23, s_112_26, s_112_27, i_in, i_cl, true_and, e43, u2, i_1s, i_wo]
  rcases ll_settle (lx := lx) (xs := xs) h64 hK hR hc 6 0 (up M 42 2 (nI (wo R (2 ^ c)))) (by omega) (by rw [up_off (by decide)]; exact u1) up_at (fun x hx _ => by rw [up_ne _ _ _ (by decide)]; exact u3 x hx) (fun p' hp' => by omega) with ⟨p0, a1, a2, a3, a4, M1, a5, a6, a7⟩ | ⟨b1, M1, b2, b3, b4⟩
  · exact Or.inl ⟨p0, a1, a2, a3, a4, M1, fun x q1 q2 => (a5 x q2).trans (up_ne _ _ _ q1), ⟨by rw [a5 42 (by decide), up_off (by decide)]; exact u1, by rw [a5 42 (by decide), up_at], a6⟩, fun d Q => by rw [st, a7]⟩
  · exact Or.inr ⟨b1, M1, fun x q1 q2 => (b2 x q1 q2).trans (up_ne _ _ _ q1), b3, fun d Q => by rw [st, b4]⟩
end SE
section OF
variable {lx : Nat} {xs : Nat → Int32} {S : Nat → Nat → Nat} {t ch : Nat} {x y : Int32}
theorem ix_mono {a b : Nat} (ha : a ∈ wlS S t) (hb : b ∈ wlS S t) (h : a < b) : ix S t a < ix S t b := by
  have a6 := wlK_mem.mp ha
  have b6 := wlK_mem.mp hb
  unfold ix
  rw [if_neg (by omega), if_neg (by omega)]
  have h1 := ls_mono (fun c => (KK S t).testBit c) (by omega : a + 1 ≤ b)
  rw [ls_s, if_pos a6.2, List.length_append] at h1
  have : [a].length = 1 := rfl
  omega
theorem ll_sourceOf (hW : WF S) {gs : Nat → Nat} {r : List (Nat → Nat)} (hgs : (en (wlS S t ++ [9]) (wlS S t) (fun _ => 9)).filter (vld (sr S t) (wlS S t)) = gs :: r) (hch : ch ∈ wlS S t) : ∀ n c, c + n = ch + 1 → ∀ M src R v, RU M (KK S t) R src → (∀ x, src x < 64) → (∀ x p, (src x).testBit p = true → (KK S t).testBit p = true) → (∀ x, (KK S t).testBit x = false → src x = 0) → R < 64 → (∀ g, WS (KK S t) src R g ↔ WS (KK S t) (sr S t) (KK S t) g ∧ ∀ x, x < c → x ∈ wlS S t → g x = gs x) → (c = ch + 1 → v = nI (gs ch)) → ∃ M1, (∀ x, x ≠ 42 → x ≠ 43 → M1 x = M x) ∧ ∀ d Q, Go (d + 3) 111 15 [some (.ref 42), some (.int (nI ch)), some (.int v), some (.int (nI c))] [] (HP lx xs M) Q = Q (some (.int (nI (gs ch)))) (HP lx xs M1) := by
  have w1 := hW.1
  have hK := KK_lt (S := S) (t := t)
  have ch6 := (wlK_mem.mp hch).1
  have nd : (wlS S t).Nodup := wlK_nd (KK S t)
  have gsF : gs ∈ (en (wlS S t ++ [9]) (wlS S t) (fun _ => 9)).filter (vld (sr S t) (wlS S t)) := by rw [hgs]; exact List.mem_cons_self
  obtain ⟨gsm, gsv⟩ := List.mem_filter.mp gsF
  have gsV : ∀ x, x ∈ wlS S t → gs x ∈ wlS S t ∨ gs x = 9 := fun x hx => by
    rcases List.mem_append.mp (((mem_en _ _).mp gsm).1 x hx) with q | q
    · exact Or.inl q
    · exact Or.inr (List.mem_singleton.mp q)
  -- any way has a first mouth
  have WSo : ∀ g, vld (sr S t) (wlK (KK S t)) g = true → WS (KK S t) (sr S t) (KK S t) g := fun g hg => by
    refine ⟨hg, ?_⟩
    have h1 := (vld_of hg).2.1
    unfold rts at h1
    rw [List.countP_eq_length_filter] at h1
    obtain ⟨z, hz⟩ := List.length_eq_one_iff.mp h1
    have : z ∈ (wlK (KK S t)).filter (fun c => g c == 9) := by rw [hz]; exact List.mem_cons_self
    obtain ⟨z1, z2⟩ := List.mem_filter.mp this
    exact ⟨z, (wlK_mem.mp z1).2, (wlK_mem.mp z1).2, eq_of_beq z2⟩
  -- the first way is the least
  have lex : ∀ c, c ∈ wlS S t → ∀ g, WS (KK S t) (sr S t) (KK S t) g → (∀ x, x < c → x ∈ wlS S t → g x = gs x) → ix S t (gs c) ≤ ix S t (g c) := by
    intro c hc g hg hag
    obtain ⟨i, hi⟩ := List.getElem?_of_mem hc
    have hi2 := (List.getElem?_eq_some_iff.mp hi).1
    have hsplit : wlS S t = (wlS S t).take i ++ c :: (wlS S t).drop (i + 1) := by
      have := List.take_append_drop i (wlS S t)
      rw [List.drop_eq_getElem_cons hi2, (List.getElem?_eq_some_iff.mp hi).2] at this
      exact this.symm
    obtain ⟨e1, e2⟩ := ways_ex hK (fun c p => sr_K w1) hg.1
    have l1 := en_lex (pos := ix S t) (fun i u hu => (V_ix hu).1) (wlS S t) (fun _ => 9) gs r nd hgs _ c _ hsplit _ e1 e2 (fun x hx => by
      obtain ⟨j, hj⟩ := List.getElem?_of_mem hx
      have hj2 := (List.getElem?_eq_some_iff.mp hj).1
      rw [List.length_take] at hj2
      rw [List.getElem?_take_of_lt (by omega)] at hj
      obtain ⟨xm, xi⟩ := ix_who hj
      have xc : x < c := by
        refine Nat.not_le.mp fun hle => ?_
        have ci := (ix_who hi).2
        by_cases z : c = x
        · rw [z, xi] at ci; omega
        · have := ix_mono hc xm (by omega); omega
      rw [if_pos (show x ∈ wlK (KK S t) from xm)]
      exact hag x xc xm)
    rw [if_pos (show c ∈ wlK (KK S t) from hc)] at l1
    exact l1
  intro n
  induction n with
  | zero =>
    intro c hc M src R v hU _ _ _ _ _ hv
    have e : c = ch + 1 := by omega
    have hgt : ch < c := by omega
    refine ⟨M, fun _ _ _ => rfl, fun d Q => ?_⟩
    rw [s_111_15, hv e]
    simp (disch := omega) only [s_111_16, s_111_17, s_111_43, s_111_44, ↓reduceIte, i_lt, hgt]
  | succ n ih =>
    intro c hc M src R v hU h64 hs h0 hR hWS hv
    have hng : ¬ ch < c := by omega
    have c6 : c < 6 := by omega
    have u1 := hU.1
    by_cases hcK : (KK S t).testBit c = true
    · have hcm : c ∈ wlS S t := wlK_mem.mpr ⟨c6, hcK⟩
      have gsW : WS (KK S t) src R gs := (hWS gs).mpr ⟨WSo gs gsv, fun _ _ _ => rfl⟩
      -- with a source p of c
      have exP : ∀ p, (src c).testBit p = true → (¬ mskn (fmf (fu src c (2 ^ p)) (KK S t) (wo R (2 ^ c))) 6 = 0 ↔ ∃ g, WS (KK S t) src R g ∧ g c = p) := fun p hp => by
        have p6 : p < 6 := tb_lt (n := 6) (h64 c) hp
        rw [EX_iff hK (fun x q hq => by
          by_cases z : x = c
          · rw [z, fu_at] at hq; rw [bit_p hq]; exact hs c p hp
          · rw [fu_off z] at hq; exact hs x q hq) (fun x hx => by
          have z : x ≠ c := fun z => by rw [z, hcK] at hx; cases hx
          rw [fu_off z]; exact h0 x hx)]
        exact exists_congr fun g => WS_set hK h64 hcK hp
      have nxt : ∀ M1 src1 R1, RU M1 (KK S t) R1 src1 → (∀ x, x ≠ 42 → x ≠ 43 → M1 x = M x) → (∀ x, src1 x < 64) → (∀ x p, (src1 x).testBit p = true → (KK S t).testBit p = true) → (∀ x, (KK S t).testBit x = false → src1 x = 0) → R1 < 64 → (∀ g, WS (KK S t) src1 R1 g ↔ WS (KK S t) src R g ∧ g c = gs c) → (∀ d Q, Go (d + 2) 112 0 [some (.ref 42), some (.int (nI c)), none, none, none] [] (HP lx xs M) Q = Q (some (.int (nI (gs c)))) (HP lx xs M1)) → ∃ M2, (∀ x, x ≠ 42 → x ≠ 43 → M2 x = M x) ∧ ∀ d Q, Go (d + 3) 111 15 [some (.ref 42), some (.int (nI ch)), some (.int v), some (.int (nI c))] [] (HP lx xs M) Q = Q (some (.int (nI (gs ch)))) (HP lx xs M2) := by
        intro M1 src1 R1 q1 q2 q3 q4 q5 q6 q7 q8
        obtain ⟨M2, s1, s2⟩ := ih (c + 1) (by omega) M1 src1 R1 (nI (gs c)) q1 q3 q4 q5 q6 (fun g => by
          rw [q7 g, hWS g]
          constructor
          · rintro ⟨⟨a1, a2⟩, a3⟩
            refine ⟨a1, fun x hx hxm => ?_⟩
            by_cases z : x = c
            · rw [z]; exact a3
            · exact a2 x (by omega) hxm
          · rintro ⟨a1, a2⟩
            exact ⟨⟨a1, fun x hx hxm => a2 x (by omega) hxm⟩, a2 c (by omega) hcm⟩) (fun z => by rw [show c = ch by omega])
        refine ⟨M2, fun x h1 h2 => (s1 x h1 h2).trans (q2 x h1 h2), fun d Q => ?_⟩
        rw [s_111_15]
        simp (disch := omega) only [s_111_16, s_111_17, s_111_20, s_111_21, s_111_24, s_111_25, s_111_28, s_111_31, s_111_32, s_111_33, s_111_36, s_111_37, s_111_40, ↓reduceIte, i_lt, hng, u1, c_X6_has, hcK, ap_some, bI_0, Bool.true_eq_false, q8, i_add]
        exact s2 d Q
      rcases c_X2_settle (lx := lx) (xs := xs) hU h64 hK hR c6 with ⟨p0, a1, a2, a3, a4, M1, a5, a6, a7⟩ | ⟨b1, M1, b2, b3, b4⟩
      · obtain ⟨g, g1, g2⟩ := (exP p0 a2).mp a3
        have lg := lex c hcm g ((hWS g).mp g1).1 ((hWS g).mp g1).2
        rw [g2] at lg
        have p0m : p0 ∈ wlS S t := wlK_mem.mpr ⟨a1, hs c p0 a2⟩
        have p0l := ix_lt p0m
        have gne : gs c ≠ 9 := fun z => by rw [z, ix_9] at lg; omega
        have gcm : gs c ∈ wlS S t := (gsV c hcm).resolve_right gne
        have gb : (src c).testBit (gs c) = true := (((vld_iff.mp gsW.1).1 c hcm).resolve_left gne)
        have ep : gs c = p0 := by
          rcases Nat.lt_trichotomy (gs c) p0 with q | q | q
          · exact absurd (a4 (gs c) q gb) ((exP (gs c) gb).mpr ⟨gs, gsW, rfl⟩)
          · exact q
          · have := ix_mono p0m gcm q; omega
        rw [← ep] at a6 a7
        refine nxt M1 (fu src c (2 ^ gs c)) (wo R (2 ^ c)) a6 a5 (fun x => ?_) (fun x q hq => ?_) (fun x hx => ?_) (wo_64 hR) (fun g => WS_set hK h64 hcK gb) a7
        · unfold fu; split
          · exact Nat.pow_lt_pow_right (by decide) (wlK_mem.mp gcm).1
          · exact h64 x
        · by_cases z : x = c
          · rw [z, fu_at] at hq; rw [bit_p hq]; exact hs c _ gb
          · rw [fu_off z] at hq; exact hs x q hq
        · have z : x ≠ c := fun z => by rw [z, hcK] at hx; cases hx
          rw [fu_off z]; exact h0 x hx
      · have g9 : gs c = 9 := by
          by_cases z : gs c = 9
          · exact z
          · have gb : (src c).testBit (gs c) = true := (((vld_iff.mp gsW.1).1 c hcm).resolve_left z)
            exact absurd (b1 (gs c) (tb_lt (n := 6) (h64 c) gb) gb) ((exP (gs c) gb).mpr ⟨gs, gsW, rfl⟩)
        refine nxt M1 (fu src c 0) (R &&& 2 ^ c) b3 b2 (fun x => ?_) (fun x q hq => ?_) (fun x hx => ?_) (Nat.lt_of_le_of_lt Nat.and_le_left hR) (fun g => by rw [g9]; exact WS_nil hK hcK) (by rw [g9]; exact b4)
        · unfold fu; split
          · decide
          · exact h64 x
        · by_cases z : x = c
          · rw [z, fu_at, Nat.zero_testBit] at hq; cases hq
          · rw [fu_off z] at hq; exact hs x q hq
        · have z : x ≠ c := fun z => by rw [z, hcK] at hx; cases hx
          rw [fu_off z]; exact h0 x hx
    · have hcm : c ∉ wlS S t := fun z => hcK (wlK_mem.mp z).2
      obtain ⟨M2, s1, s2⟩ := ih (c + 1) (by omega) M src R v hU h64 hs h0 hR (fun g => by
        rw [hWS g]
        constructor
        · rintro ⟨a1, a2⟩
          refine ⟨a1, fun x hx hxm => a2 x ?_ hxm⟩
          have : x ≠ c := fun z => hcm (by rw [← z]; exact hxm)
          omega
        · rintro ⟨a1, a2⟩
          exact ⟨a1, fun x hx hxm => a2 x (by omega) hxm⟩) (fun z => absurd hch (by rw [show ch = c by omega]; exact hcm))
      rw [Bool.not_eq_true] at hcK
      refine ⟨M2, s1, fun d Q => ?_⟩
      rw [s_111_15]
      simp (disch := omega) only [s_111_16, s_111_17, s_111_20, s_111_21, s_111_24, s_111_25, s_111_28, s_111_31, s_111_32, s_111_33, s_111_36, s_111_37, s_111_40, ↓reduceIte, i_lt, hng, u1, c_X6_has, hcK, ap_some, bI_0, i_add]
      exact s2 d Q
theorem ll_X7_from {M : Nat → Nat → Int32} (hw : WHO M S t) (hch : ch ∈ wlS S t) : ∀ n k, k + n = ix S t ch → ∀ d Q, Go d 156 49 [some (.ref 53), some (.int (nI t)), some (.int (nI ch)), some (.int (nI k))] [] (HP lx xs M) Q = Go d 156 65 [some (.ref 53), some (.int (nI t)), some (.int (nI ch)), some (.int (nI (ix S t ch)))] [] (HP lx xs M) Q := by
  have hl := wlS_len S t
  have hix := ix_lt hch
  have ch6 := (wlK_mem.mp hch).1
  intro n
  induction n with
  | zero =>
    intro k hk d Q
    have e : k = ix S t ch := by omega
    subst e
    have e69 := hw.2 _ _ (ix_at hch)
    rw [s_156_49]
    simp (disch := omega) only [s_156_50, s_156_53, s_156_54, s_156_55, s_156_56, ↓reduceIte, i_in, i_cl, true_and, e69]
  | succ n ih =>
    intro k hk d Q
    obtain ⟨c, hc⟩ : ∃ c, (wlS S t)[k]? = some c := ⟨_, List.getElem?_eq_getElem (by omega)⟩
    obtain ⟨cm, ci⟩ := ix_who hc
    have c6 := (wlK_mem.mp cm).1
    have e69 := hw.2 k c hc
    have ne : (c = ch) = False := eq_false fun z => by rw [z] at ci; omega
    rw [s_156_49]
    simp (disch := omega) only [s_156_50, s_156_53, s_156_54, s_156_55, s_156_56, s_156_59, s_156_62, ↓reduceIte, i_in, i_cl, true_and, e69, i_eq, ne, i_add]
    exact ih (k + 1) (by omega) d Q
theorem op_from (hW : WF S) : opS 34 156 [some (.ref 1), some (.int x), some (.int y)] [some (.ref 53), some (.int x), some (.int y), none] S := by
  have w1 := hW.1
  by_cases h1 : isr x 4 = true
  · by_cases h2 : isr y (S 0 0) = true
    · obtain ⟨t, ht, -, rfl⟩ := isr_of h1
      obtain ⟨ch, hc, -, rfl⟩ := isr_of h2
      have k1 := kn_lt (S 2) ch
      have k2 := kn_bit (S 2) ch ht
      have w5 := hW.2.2.2.2.1 (ch * 4 + t) (by omega)
      by_cases hk : S 2 (ch * 4 + t) < 97
      · rw [decide_eq_true hk] at k2
        have hpk : pk S t ch = true := by unfold pk; rw [decide_eq_true hc, decide_eq_true hk]; rfl
        have hch : ch ∈ wlS S t := (wlS_mem w1).mpr hpk
        have hn97 : (S 2 (ch * 4 + t) = 97) = False := eq_false (by omega)
        have hl := wlS_len S t
        have hK := KK_lt (S := S) (t := t)
        -- how many ways
        have hcount : (FW S t).1 = ((en (wlS S t ++ [9]) (wlS S t) (fun _ => 9)).filter (vld (sr S t) (wlS S t))).length := by
          unfold FW
          rw [fold_w, Nat.zero_add, List.countP_eq_length_filter]
        have hbound : (FW S t).1 ≤ 200000 := by
          rw [hcount]
          refine Nat.le_trans (List.length_filter_le _ _) ?_
          rw [en_len, List.length_append]
          have hpow : ((wlS S t).length + 1) ^ (wlS S t).length ≤ 7 ^ 6 := Nat.le_trans (Nat.pow_le_pow_left (by omega : (wlS S t).length + 1 ≤ 7) _) (Nat.pow_le_pow_right (by decide) hl)
          exact Nat.le_trans hpow (by decide)
        have e6 : ∀ lx xs M, RepC M 2 S → ∃ M1, (∀ c, c ≠ 42 → c ≠ 43 → M1 c = M c) ∧ RU M1 (KK S t) (KK S t) (sr S t) ∧ ∀ Q, Go 1999 34 0 [some (.ref 1), some (.int (nI t)), some (.int (nI ch))] [] (HP lx xs M) Q = Go 1998 111 0 [some (.ref 42), some (.int (nI ch)), none, none] [] (HP lx xs M1) (fun v h => Go 1999 34 56 [some (.ref 1), some (.int (nI t)), some (.int (nI ch))] (ap v []) h Q) := by
          intro lx xs M hC
          obtain ⟨M1, r1, r2, r3⟩ := c_X2_listen (lx := lx) (xs := xs) hW ht hC
          have r4 := r3 1997
          simp only [Nat.reduceAdd] at r4
          refine ⟨M1, r1, r2, fun Q => ?_⟩
          have c6 := hC.2.2.2.2.2.1 ch hc
          simp only [Nat.reduceAdd] at c6
          simp (disch := omega) only [s_34_0, s_34_1, s_34_4, s_34_7, s_34_8, s_34_11, s_34_12, s_34_15, s_34_18, s_34_19, s_34_22, s_34_25, s_34_26, s_34_27, s_34_28, s_34_31, s_34_34, s_34_35, s_34_36, s_34_37, s_34_40, s_34_41, s_34_44, s_34_45, s_34_48, s_34_49, s_34_52, s_34_53, ↓reduceIte, c_X6_isThing, h1, ap_some, ap_none, bI_0, Bool.true_eq_false, c_X3_isChild w1 hC.1, h2, i_in, i_cl, true_and, c6, c_X6_has, k2, r4]
        have fmz : (mskn (fmf (sr S t) (KK S t) (KK S t)) 6 = 0) ↔ (FW S t).1 = 0 := by
          have := EX_iff (R := KK S t) hK (fun c p => sr_K w1) (fun c h => sr_0 (S := S) (t := t) w1 h)
          constructor
          · intro hz
            rw [hcount]
            refine List.length_eq_zero_iff.mpr (List.filter_eq_nil_iff.mpr fun g _ hg => ?_)
            have hf : (FW S t).2.1 = 0 := by rw [← FW_f hW]; exact hz
            have hg2 : vld (sr S t) (wlK (KK S t)) g = true := hg
            have h1' := (vld_of hg2).2.1
            unfold rts at h1'
            rw [List.countP_eq_length_filter] at h1'
            obtain ⟨z, hz2⟩ := List.length_eq_one_iff.mp h1'
            have hzm : z ∈ (wlK (KK S t)).filter (fun c => g c == 9) := by rw [hz2]; exact List.mem_cons_self
            obtain ⟨z1, z2⟩ := List.mem_filter.mp hzm
            exact this.mpr ⟨g, hg2, z, (wlK_mem.mp z1).2, (wlK_mem.mp z1).2, eq_of_beq z2⟩ hz
          · intro hw0
            refine Classical.byContradiction fun hz => ?_
            obtain ⟨g, g1, -⟩ := this.mp hz
            obtain ⟨a1, a2⟩ := ways_ex hK (fun c p => sr_K w1) g1
            rw [hcount] at hw0
            have := List.filter_eq_nil_iff.mp (List.length_eq_zero_iff.mp hw0) _ a1
            exact this a2
        have ml := mskn_lt (fmf (sr S t) (KK S t) (KK S t)) 6
        match hF : (en (wlS S t ++ [9]) (wlS S t) (fun _ => 9)).filter (vld (sr S t) (wlS S t)) with
        | [] =>
          have hw0 : (FW S t).1 = 0 := by rw [hcount, hF]; rfl
          have hz := fmz.mpr hw0
          refine ⟨-4, S, hW, fun lx xs M hC hB => ?_, fun lx xs M hC => ?_⟩
          · obtain ⟨M1, r1, r2, r3⟩ := e6 lx xs M hC
            refine ⟨M1, RepC_eq hC fun c p q => r1 c (by omega) (by omega), fun i hi => by rw [r1 5 (by decide) (by decide)]; exact hB i hi, fun c hc => r1 c (by unfold prC at hc; omega) (by unfold prC at hc; omega), fun Q => ?_⟩
            have fm := fun Q => c_X2_firstMouths (d := 1996) (Q := Q) (lx := lx) (xs := xs) r2 (fun c => sr_lt) hK hK
            simp only [Nat.reduceAdd, hz] at fm
            rw [r3]
            simp (disch := omega) only [s_111_0, s_111_1, s_111_4, s_111_7, s_111_9, s_34_56, ↓reduceIte, fm, ap_some, n0_0]
          · obtain ⟨M1, r1, r2, r3, r4, r5⟩ := c_X7_findWays (lx := lx) (xs := xs) hW ht hC
            refine ⟨M1, r1, r2, fun Q => ?_⟩
            have r6 := r5 1995
            simp only [Nat.reduceAdd] at r6
            have a1 := r4.1
            rw [hw0] at a1
            have c5 := hC.2.2.2.2.1 (4 * ch + t) (by omega)
            rw [Nat.mul_comm ch 4] at hn97 w5
            simp (disch := omega) only [s_156_0, s_156_1, s_156_4, s_156_7, s_156_8, s_156_9, s_156_12, s_156_15, s_156_16, s_156_19, s_156_20, s_156_21, s_156_22, s_156_23, s_156_24, s_156_25, s_156_27, s_156_30, s_156_31, s_156_32, s_156_33, s_156_34, s_156_37, s_156_38, s_156_41, s_156_44, s_156_46, ↓reduceIte, c_X7_isThing, h1, ap_some, ap_none, bI_0, Bool.true_eq_false, c_X7_isChild w1 hC.1, h2, i_mul, i_add, i_in, i_cl, true_and, c5, i_eq, hn97, r6, a1, n0_0]
        | gs :: r =>
          have hw0 : (FW S t).1 ≠ 0 := by rw [hcount, hF, List.length_cons]; omega
          have hz : ¬ mskn (fmf (sr S t) (KK S t) (KK S t)) 6 = 0 := fun q => hw0 (fmz.mp q)
          have hFs : (FW S t).2.2 = gs := by unfold FW; exact fold_F0 _ _ rfl gs r hF
          have gsF : gs ∈ (en (wlS S t ++ [9]) (wlS S t) (fun _ => 9)).filter (vld (sr S t) (wlS S t)) := by rw [hF]; exact List.mem_cons_self
          have gsm := (List.mem_filter.mp gsF).1
          have gsV : gs ch ∈ wlS S t ∨ gs ch = 9 := by
            rcases List.mem_append.mp (((mem_en _ _).mp gsm).1 ch hch) with q | q
            · exact Or.inl q
            · exact Or.inr (List.mem_singleton.mp q)
          refine ⟨nI (gs ch), S, hW, fun lx xs M hC hB => ?_, fun lx xs M hC => ?_⟩
          · obtain ⟨M1, r1, r2, r3⟩ := e6 lx xs M hC
            obtain ⟨M2, s1, s2⟩ := ll_sourceOf (lx := lx) (xs := xs) hW hF hch (ch + 1) 0 (by omega) M1 (sr S t) (KK S t) (-4) r2 (fun c => sr_lt) (fun c p => sr_K w1) (fun c h => sr_0 w1 h) hK (fun g => ⟨fun q => ⟨q, fun x hx => by omega⟩, fun q => q.1⟩) (fun q => by omega)
            refine ⟨M2, RepC_eq hC fun c p q => (s1 c (by omega) (by omega)).trans (r1 c (by omega) (by omega)), fun i hi => by rw [s1 5 (by decide) (by decide), r1 5 (by decide) (by decide)]; exact hB i hi, fun c hc => (s1 c (by unfold prC at hc; omega) (by unfold prC at hc; omega)).trans (r1 c (by unfold prC at hc; omega) (by unfold prC at hc; omega)), fun Q => ?_⟩
            have fm := fun Q => c_X2_firstMouths (d := 1996) (Q := Q) (lx := lx) (xs := xs) r2 (fun c => sr_lt) hK hK
            simp only [Nat.reduceAdd] at fm
            have s3 := s2 1995
            simp only [Nat.reduceAdd] at s3
            rw [r3]
            simp (disch := omega) only [s_111_0, s_111_1, s_111_4, s_111_7, s_111_9, s_111_10, s_111_12, s_111_13, s_111_14, ↓reduceIte, fm, ap_some, i_e0, hz]
            rw [s3]
            simp only [s_34_56, ap_some]
          · obtain ⟨M1, r1, r2, r3, r4, r5⟩ := c_X7_findWays (lx := lx) (xs := xs) hW ht hC
            refine ⟨M1, r1, r2, fun Q => ?_⟩
            have r6 := r5 1995
            simp only [Nat.reduceAdd] at r6
            obtain ⟨a1, a2, a3⟩ := r4
            have a4 := a3 (by omega) _ _ (ix_at hch)
            rw [hFs] at a4
            have c5 := hC.2.2.2.2.1 (4 * ch + t) (by omega)
            have hix := ix_lt hch
            have hle := ix_le gsV
            have lp := ll_X7_from (lx := lx) (xs := xs) r3 hch (ix S t ch) 0 (by omega) 1999 Q
            rw [Nat.mul_comm ch 4] at hn97 w5
            simp (disch := omega) only [s_156_0, s_156_1, s_156_4, s_156_7, s_156_8, s_156_9, s_156_12, s_156_15, s_156_16, s_156_19, s_156_20, s_156_21, s_156_22, s_156_23, s_156_24, s_156_25, s_156_27, s_156_30, s_156_31, s_156_32, s_156_33, s_156_34, s_156_37, s_156_38, s_156_41, s_156_44, s_156_46, s_156_47, s_156_48, ↓reduceIte, c_X7_isThing, h1, ap_some, ap_none, bI_0, Bool.true_eq_false, c_X7_isChild w1 hC.1, h2, i_mul, i_add, i_in, i_cl, true_and, c5, i_eq, hn97, r6, a1, i_e0, hw0]
            refine Eq.trans lp ?_
            by_cases h9 : gs ch = 9
            · rw [h9, ix_9] at a4
              rw [h9]
              simp (disch := omega) only [s_156_65, s_156_66, s_156_69, s_156_70, s_156_71, s_156_72, s_156_75, s_156_78, s_156_80, s_156_83, s_156_84, s_156_87, s_156_88, s_156_91, s_156_92, s_156_93, s_156_94, ↓reduceIte, i_in, i_cl, true_and, a4, r3.1]
            · have gcm := gsV.resolve_right h9
              have hlt := ix_lt gcm
              have ne : (ix S t (gs ch) = (wlS S t).length) = False := eq_false (by omega)
              have e69 := r3.2 _ _ (ix_at gcm)
              simp (disch := omega) only [s_156_65, s_156_66, s_156_69, s_156_70, s_156_71, s_156_72, s_156_75, s_156_78, s_156_80, s_156_83, s_156_84, s_156_87, s_156_88, s_156_91, s_156_92, s_156_93, s_156_94, ↓reduceIte, i_in, i_cl, true_and, a4, r3.1, i_eq, ne, e69]
      · rw [decide_eq_false hk] at k2
        have h97 : S 2 (ch * 4 + t) = 97 := by omega
        refine opS_same (-1) hW (fun lx xs M hC Q => ?_) (fun lx xs M hC Q => ?_)
        · have c6 := hC.2.2.2.2.2.1 ch hc
          simp only [Nat.reduceAdd] at c6
          simp (disch := omega) only [s_34_0, s_34_1, s_34_4, s_34_7, s_34_8, s_34_11, s_34_12, s_34_15, s_34_18, s_34_19, s_34_22, s_34_25, s_34_26, s_34_27, s_34_28, s_34_31, s_34_34, s_34_35, ↓reduceIte, c_X6_isThing, h1, ap_some, bI_0, Bool.true_eq_false, c_X3_isChild w1 hC.1, h2, i_in, i_cl, true_and, c6, c_X6_has, k2]
        · have c5 := hC.2.2.2.2.1 (4 * ch + t) (by omega)
          rw [Nat.mul_comm 4 ch, h97, Nat.mul_comm ch 4] at c5
          simp (disch := omega) only [s_156_0, s_156_1, s_156_4, s_156_7, s_156_8, s_156_9, s_156_12, s_156_15, s_156_16, s_156_19, s_156_20, s_156_21, s_156_22, s_156_23, s_156_24, s_156_25, s_156_27, s_156_30, s_156_31, ↓reduceIte, c_X7_isThing, h1, ap_some, bI_0, Bool.true_eq_false, c_X7_isChild w1 hC.1, h2, i_mul, i_add, i_in, i_cl, true_and, c5]
    · rw [Bool.not_eq_true] at h2
      refine opS_same (-1) hW (fun lx xs M hC Q => ?_) (fun lx xs M hC Q => ?_)
      · simp (disch := omega) only [s_34_0, s_34_1, s_34_4, s_34_7, s_34_8, s_34_11, s_34_12, s_34_15, s_34_18, s_34_19, s_34_22, s_34_25, s_34_26, s_34_27, s_34_28, s_34_31, s_34_34, s_34_35, ↓reduceIte, c_X6_isThing, h1, ap_some, bI_0, Bool.true_eq_false, c_X3_isChild w1 hC.1, h2]
      · simp (disch := omega) only [s_156_0, s_156_1, s_156_4, s_156_7, s_156_8, s_156_9, s_156_12, s_156_15, s_156_16, s_156_19, s_156_20, s_156_21, s_156_22, s_156_23, s_156_24, s_156_25, s_156_27, s_156_30, s_156_31, ↓reduceIte, c_X7_isThing, h1, ap_some, bI_0, Bool.true_eq_false, c_X7_isChild w1 hC.1, h2]
  · rw [Bool.not_eq_true] at h1
    refine opS_same (-1) hW (fun lx xs M hC Q => ?_) (fun lx xs M hC Q => ?_)
    · simp (disch := omega) only [s_34_0, s_34_1, s_34_4, s_34_7, s_34_8, s_34_11, s_34_12, s_34_15, s_34_18, s_34_19, s_34_22, s_34_25, s_34_26, s_34_27, s_34_28, s_34_31, s_34_34, s_34_35, ↓reduceIte, c_X6_isThing, h1, ap_some, bI_0]
    · simp (disch := omega) only [s_156_0, s_156_1, s_156_4, s_156_7, s_156_8, s_156_9, s_156_12, s_156_15, s_156_16, s_156_19, s_156_20, s_156_21, s_156_22, s_156_23, s_156_24, s_156_25, s_156_27, s_156_30, s_156_31, ↓reduceIte, c_X7_isThing, h1, ap_some, bI_0]
end OF
