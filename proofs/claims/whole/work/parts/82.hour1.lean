/-! hours: goOn marks what one hour makes -/
theorem low_bit {F : Nat} : ∀ n, F.testBit n = true → ∃ a, F.testBit a = true ∧ ∀ j, j < a → F.testBit j = false := by
  intro n
  induction n using Nat.strongRecOn with
  | ind n ih =>
    intro h
    by_cases z : ∀ j, j < n → F.testBit j = false
    · exact ⟨n, h, z⟩
    · have hex : ∃ j, j < n ∧ F.testBit j = true := by
        refine Classical.byContradiction fun q => z fun j hj => ?_
        rw [← Bool.not_eq_true]
        exact fun q' => q ⟨j, hj, q'⟩
      obtain ⟨j, hj, q⟩ := hex
      exact ih j hj q
theorem ex_bit {F : Nat} (h : F ≠ 0) : ∃ n, F.testBit n = true := by
  refine Classical.byContradiction fun q => h (Nat.eq_of_testBit_eq fun i => ?_)
  rw [Nat.zero_testBit, ← Bool.not_eq_true]
  exact fun z => q ⟨i, z⟩
theorem te_e (a b i : Nat) : te a b (2 * i) = a := by unfold te; rw [if_pos (by omega)]
theorem te_o (a b i : Nat) : te a b (2 * i + 1) = b := by unfold te; rw [if_neg (by omega)]
theorem mk1_src {M M1 M2 : Nat → Nat → Int32} {P : Nat → Prop} (h : M1 62 = M 62) (a : mk1 M1 M2 P) : mk1 M M2 P := fun j => ⟨(a j).1, fun q => by rw [(a j).2 q, h]⟩
section GP
variable {S : Nat → Nat → Nat} {s X st a b p R F th k j : Nat}
theorem PS_0 : PS S s X 0 th j ↔ j = th := by
  constructor
  · rintro ⟨l, h1, h2⟩
    cases l with
    | nil => exact h2.symm
    | cons x l => have := h1.1; rw [Nat.zero_testBit] at this; cases this
  · intro h; exact ⟨[], trivial, h.symm⟩
theorem PS_s (hF : sub F (aln S)) (ha : F.testBit a = true) (hlow : ∀ j, j < a → F.testBit j = false) : PS S s X F th j ↔ PS S s X (wo F (2 ^ a)) th j ∨ ∃ b k, a + 1 ≤ b ∧ b < S 0 0 ∧ (wo F (2 ^ a)).testBit b = true ∧ k < 2 * pcn s ∧ mT S s X (te a b k) (te b a k) (k / 2) = true ∧ PS S s X (wo (wo F (2 ^ a)) (2 ^ b)) (th ||| 2 ^ (te b a k * pcn s + k / 2)) j := by
  have lt : ∀ b, F.testBit b = true → b < S 0 0 := fun b h => by
    have q := hF b h
    unfold aln at q
    exact tp_bit.mp q
  have gt : ∀ b, F.testBit b = true → b ≠ a → a + 1 ≤ b := fun b h hne => by
    by_cases z : b < a
    · rw [hlow b z] at h; cases h
    · omega
  constructor
  · rintro ⟨l, h1, h2⟩
    rcases MT_rm l F a h1 ha with q | ⟨x, l', q1, ⟨f1, f2, f3, f4, f5, f6⟩, -, q3⟩
    · exact Or.inl ⟨l, q, h2⟩
    · right
      rw [q3, val] at h2
      obtain ⟨x1, x2, x3⟩ := x
      dsimp only at q1 f1 f2 f3 f4 f5 f6
      by_cases z : x1 = a
      · rw [z] at f1 f3 f5 f6
        refine ⟨x2, 2 * x3, gt x2 f2 (fun q => f3 q.symm), lt x2 f2, wo_b.mpr ⟨f2, fun q => f3 q.symm⟩, by omega, ?_, l', ?_, ?_⟩
        · rw [te_e, te_e, show 2 * x3 / 2 = x3 by omega]; exact f5
        · exact f6
        · rw [te_e, show 2 * x3 / 2 = x3 by omega]; exact h2
      · have z2 : x2 = a := q1.resolve_left z
        rw [z2] at f2 f3 f5 f6 h2
        refine ⟨x1, 2 * x3 + 1, gt x1 f1 f3, lt x1 f1, wo_b.mpr ⟨f1, f3⟩, by omega, ?_, l', ?_, ?_⟩
        · rw [te_o, te_o, show (2 * x3 + 1) / 2 = x3 by omega]; exact f5
        · rw [wo_c F (2 ^ a)]; exact f6
        · rw [te_o, show (2 * x3 + 1) / 2 = x3 by omega]; exact h2
  · rintro (⟨l, h1, h2⟩ | ⟨b, k, b1, b2, b3, b4, b5, l, h1, h2⟩)
    · exact ⟨l, MT_F l _ _ (wo_sub _ _) h1, h2⟩
    · obtain ⟨b6, b7⟩ := wo_b.mp b3
      refine ⟨(te a b k, te b a k, k / 2) :: l, ⟨?_, ?_, ?_, by dsimp only; omega, b5, ?_⟩, by rw [val]; exact h2⟩
      · dsimp only; unfold te; split
        · exact ha
        · exact b6
      · dsimp only; unfold te; split
        · exact b6
        · exact ha
      · dsimp only; unfold te; split <;> omega
      · dsimp only
        unfold te
        split
        · exact h1
        · rw [wo_c F (2 ^ b)]; exact h1
theorem GO_all (hW : WF S) (hs : s < 16) (hb : S 0 0 * pcn s ≤ 12) (hst : stP S s (pcn s) 0 st) (hX : sub st X) (hX4 : X < 4096) : ∀ k, k ≤ 6 → GOk S s X k := by
  have w1 := hW.1
  have w4 := (th_rk s hs).2.2
  have fl4 := fl_lt hb
  obtain ⟨al1, al2⟩ := pcn_al (S 0 0) w1
  have al2' : aln S < 64 := al2
  intro k
  induction k with
  | zero =>
    intro _ lx xs M p F th hC hT hk hF hth hp hM1 hM2
    have hF64 : F < 64 := Nat.lt_of_le_of_lt (sub_le hF) al2'
    have hth4 : th < 4096 := Nat.lt_of_le_of_lt (sub_le hth) fl4
    have hF0 : F = 0 := by
      refine Classical.byContradiction fun q => ?_
      obtain ⟨n, hn⟩ := ex_bit q
      have := pcn_wo6 F hF64 n (tb_lt (n := 6) hF64 hn) hn
      omega
    subst hF0
    refine ⟨up M 62 th (nI 1), fun c h1 h2 h3 => up_ne _ _ _ h1, fun j hj => ⟨by rw [up_ne _ _ _ (by decide)], by rw [up_ne _ _ _ (by decide)]⟩, fun j => ⟨fun q => ?_, fun q => ?_⟩, fun d Q o3 o4 o5 o6 o7 o8 o9 o10 => ⟨some (.int (nI 0)), some (.int (nI th)), o5, o6, o7, o8, o9, o10, ?_⟩⟩
    · rw [PS_0.mp q, up_at]
    · rw [up_off (fun z => q (PS_0.mpr z))]
    · have hpp : 0 < p + 1 := by omega
      rw [s_144_23]
      simp (disch := omega) only [s_144_24, s_144_27, s_144_30, s_144_31, s_144_34, s_144_35, s_144_36, s_144_37, s_144_38, s_144_41, s_144_42, s_144_43, s_144_45, s_144_46, s_144_49, s_144_50, s_144_53, s_144_55, s_144_56, s_144_57, s_144_247, ↓reduceIte, i_0l, hpp, pre_s, i_in, i_cl, true_and, hM1, hM2, n0_0, vp_t]
  | succ k ih =>
    intro hk6 lx xs M p F th hC hT hk hF hth hp hM1 hM2
    have hF64 : F < 64 := Nat.lt_of_le_of_lt (sub_le hF) al2'
    have hth4 : th < 4096 := Nat.lt_of_le_of_lt (sub_le hth) fl4
    have hpp : 0 < p + 1 := by omega
    by_cases hF0 : F = 0
    · subst hF0
      refine ⟨up M 62 th (nI 1), fun c h1 h2 h3 => up_ne _ _ _ h1, fun j hj => ⟨by rw [up_ne _ _ _ (by decide)], by rw [up_ne _ _ _ (by decide)]⟩, fun j => ⟨fun q => ?_, fun q => ?_⟩, fun d Q o3 o4 o5 o6 o7 o8 o9 o10 => ⟨some (.int (nI 0)), some (.int (nI th)), o5, o6, o7, o8, o9, o10, ?_⟩⟩
      · rw [PS_0.mp q, up_at]
      · rw [up_off (fun z => q (PS_0.mpr z))]
      · rw [s_144_23]
        simp (disch := omega) only [s_144_24, s_144_27, s_144_30, s_144_31, s_144_34, s_144_35, s_144_36, s_144_37, s_144_38, s_144_41, s_144_42, s_144_43, s_144_45, s_144_46, s_144_49, s_144_50, s_144_53, s_144_55, s_144_56, s_144_57, s_144_247, ↓reduceIte, i_0l, hpp, pre_s, i_in, i_cl, true_and, hM1, hM2, n0_0, vp_t]
    · obtain ⟨n, hn⟩ := ex_bit hF0
      obtain ⟨a, ha, hlow⟩ := low_bit n hn
      have ha6 : a < 6 := tb_lt (n := 6) hF64 ha
      have haS : a < S 0 0 := by
        have q := hF a ha
        unfold aln at q
        exact tp_bit.mp q
      have hR64 : wo F (2 ^ a) < 64 := wo_64 hF64
      have pR := pcn_wo6 F hF64 a ha6 ha
      obtain ⟨N, hN⟩ : ∃ N, N = up (up M 64 p (nI (wo F (2 ^ a)))) 65 p (nI th) := ⟨_, rfl⟩
      have nf : ∀ c, c ≠ 64 → c ≠ 65 → N c = M c := fun c h1 h2 => by rw [hN, up_ne _ _ _ h2, up_ne _ _ _ h1]
      have nfr : frG2 M N := fun c _ h2 h3 => nf c h2 h3
      have nb : bel p M N := fun j hj => ⟨by rw [hN, up_ne _ _ _ (by decide), up_off (by omega)], by rw [hN, up_off (by omega), up_ne _ _ _ (by decide)]⟩
      have nE : stk N p [(wo F (2 ^ a), th)] := ⟨by rw [hN, up_ne _ _ _ (by decide)]; exact up_at, by rw [hN]; exact up_at, trivial⟩
      have mb : (S 0 0 - (a + 1)) * (2 * pcn s) ≤ 24 := by
        have q1 : (S 0 0 - (a + 1)) * (2 * pcn s) ≤ S 0 0 * (2 * pcn s) := Nat.mul_le_mul_right _ (by omega)
        rw [Nat.mul_left_comm (S 0 0) 2 (pcn s)] at q1
        omega
      obtain ⟨M1, E1, r1, r2, r3, r4, r5, r6, r7⟩ := out_go (p := p) (F := F) hW hs hb hst hX hX4 haS hR64 hth4 hF64 (S 0 0 - (a + 1)) (a + 1) lx xs N _ (by omega) (frG2_M nfr hC) (frG2_T nfr hT) nE (by rw [List.length_singleton]; omega)
      rw [List.length_singleton] at r5
      have fr1 : frG2 M M1 := fun c h1 h2 h3 => (r1 c h1 h2 h3).trans (nfr c h1 h2 h3)
      have subR : sub (wo F (2 ^ a)) (aln S) := sub_tr (wo_sub _ _) hF
      obtain ⟨M2, u1, u2, u3, u4⟩ := seg (ih (by omega)) E1 lx xs M1 p (frG2_M fr1 hC) (frG2_T fr1 hT) (fun e he => by
        rcases (r6 e).mp he with q | ⟨b, kk, q1, q2, q3, q4, q5, q6⟩
        · rw [List.mem_singleton] at q
          rw [q]
          exact ⟨by dsimp only; omega, subR, hth⟩
        · have pb := pcn_wo6 (wo F (2 ^ a)) hR64 b (by omega) q3
          rw [q6]
          refine ⟨by dsimp only; omega, sub_tr (wo_sub _ _) subR, fun j hj => ?_⟩
          dsimp only at hj
          rw [Nat.testBit_or, Bool.or_eq_true] at hj
          rcases hj with z | z
          · exact hth j z
          · rw [bit_p z]
            unfold fl
            rw [tp_bit]
            refine pos_lt ?_ (by omega)
            unfold te
            split <;> omega) (by omega) r4
      refine ⟨M2, fun c h1 h2 h3 => (u1 c h1 h2 h3).trans (fr1 c h1 h2 h3), fun j hj => ⟨((u2 j hj).1.trans (r3 j hj).1).trans (nb j hj).1, ((u2 j hj).2.trans (r3 j hj).2).trans (nb j hj).2⟩, mk1_src (r2.trans (nf 62 (by decide) (by decide))) (mk1_cg u3 fun j => ?_), fun d Q o3 o4 o5 o6 o7 o8 o9 o10 => ?_⟩
      · rw [PS_s hF ha hlow]
        constructor
        · rintro (q | ⟨b, kk, q1, q2, q3, q4, q5, q6⟩)
          · exact ⟨_, (r6 _).mpr (Or.inl List.mem_cons_self), q⟩
          · exact ⟨_, (r6 _).mpr (Or.inr ⟨b, kk, q1, q2, q3, q4, q5, rfl⟩), q6⟩
        · rintro ⟨e, q1, q2⟩
          rcases (r6 e).mp q1 with z | ⟨b, kk, z1, z2, z3, z4, z5, z6⟩
          · rw [List.mem_singleton] at z
            rw [z] at q2
            exact Or.inl q2
          · rw [z6] at q2
            exact Or.inr ⟨b, kk, z1, z2, z3, z4, z5, q2⟩
      · obtain ⟨o8', o9', o10', q⟩ := r7 d Q o8 o9 o10
        obtain ⟨b3, b4, b5, b6, b7, b8, b9, b10, q'⟩ := u4 d Q (some (.int (nI F))) (some (.int (nI th))) (some (.int (nI a))) (some (.int (nI (wo F (2 ^ a))))) (some (.int (nI (S 0 0)))) o8' o9' o10'
        refine ⟨b3, b4, b5, b6, b7, b8, b9, b10, ?_⟩
        rw [← q', ← q, hN]
        have hFe : (F = 0) = False := eq_false hF0
        have lp := loopN (fun j => Go (d + 2) 144 63 [some (.ref 53), some (.int (nI X)), some (.int (nI p)), some (.int (nI F)), some (.int (nI th)), some (.int (nI j)), o6, o7, o8, o9, o10] [] (HP lx xs M) Q) a fun j hj => by
          show Go (d + 2) _ 63 _ _ _ _ = Go (d + 2) _ 63 _ _ _ _
          have hj2 := hlow j hj
          rw [s_144_63]
          simp (disch := omega) only [s_144_64, s_144_66, s_144_69, s_144_72, s_144_75, ↓reduceIte, c_X7_has, hj2, ap_some, bI_0, i_add]
        try dsimp only at lp
        rw [s_144_23]
        simp (disch := omega) only [s_144_24, s_144_27, s_144_30, s_144_31, s_144_34, s_144_35, s_144_36, s_144_37, s_144_38, s_144_41, s_144_42, s_144_43, s_144_45, s_144_46, s_144_49, s_144_50, s_144_53, s_144_55, s_144_56, s_144_57, s_144_60, s_144_61, ↓reduceIte, i_0l, hpp, pre_s, i_in, i_cl, true_and, hM1, hM2, i_e0, hFe]
        refine Eq.trans lp ?_
        rw [s_144_63, List.length_singleton]
        simp (disch := omega) only [s_144_64, s_144_66, s_144_69, s_144_72, s_144_75, s_144_78, s_144_79, s_144_80, s_144_82, s_144_83, s_144_84, s_144_85, s_144_86, s_144_88, s_144_89, s_144_92, s_144_93, s_144_95, s_144_96, s_144_97, s_144_100, s_144_101, s_144_103, s_144_104, s_144_107, s_144_109, s_144_110, s_144_111, ↓reduceIte, c_X7_has, ha, ap_some, bI_0, Bool.true_eq_false, i_1s, i_wo, i_in, i_cl, true_and, i_add]
/-- goOn: one hour from one state -/
theorem c_X7_goOn {lx : Nat} {xs : Nat → Int32} {M : Nat → Nat → Int32} (hW : WF S) (hs : s < 16) (hb : S 0 0 * pcn s ≤ 12) (hst : stP S s (pcn s) 0 st) (hX : sub st X) (hXf : sub X (fl S s)) (hC : RepM M S) (hT : TH M s) : ∃ M1, frG2 M M1 ∧ mk1 M M1 (PS S s X (aln S) X) ∧ ∀ d Q, Go (d + 2) 144 0 [some (.ref 53), some (.int (nI X)), none, none, none, none, none, none, none, none, none] [] (HP lx xs M) Q = Q none (HP lx xs M1) := by
  have w1 := hW.1
  have hX4 : X < 4096 := Nat.lt_of_le_of_lt (sub_le hXf) (fl_lt hb)
  obtain ⟨al1, al2⟩ := pcn_al (S 0 0) w1
  obtain ⟨N, hN⟩ : ∃ N, N = up (up M 64 0 (nI (aln S))) 65 0 (nI X) := ⟨_, rfl⟩
  have nf : ∀ c, c ≠ 64 → c ≠ 65 → N c = M c := fun c h1 h2 => by rw [hN, up_ne _ _ _ h2, up_ne _ _ _ h1]
  have nfr : frG2 M N := fun c _ h2 h3 => nf c h2 h3
  have al3 : pcn (aln S) = S 0 0 := al1
  obtain ⟨M1, r1, r2, r3, r4⟩ := GO_all hW hs hb hst hX hX4 6 (by omega) lx xs N 0 (aln S) X (frG2_M nfr hC) (frG2_T nfr hT) (by omega) (sub_rf _) hXf (by omega) (by rw [hN, up_ne _ _ _ (by decide), up_at]) (by rw [hN, up_at])
  refine ⟨M1, fun c h1 h2 h3 => (r1 c h1 h2 h3).trans (nfr c h1 h2 h3), mk1_src (nf 62 (by decide) (by decide)) r3, fun d Q => ?_⟩
  obtain ⟨o3, o4, o5, o6, o7, o8, o9, o10, q⟩ := r4 d Q none none none none none none none none
  have c1 := hC.1
  have p0 := Nat.two_pow_pos (S 0 0)
  have e : nI (2 ^ S 0 0 - 1) = nI (aln S) := rfl
  simp (disch := omega) only [s_144_0, s_144_1, s_144_2, s_144_3, s_144_6, s_144_7, s_144_8, s_144_9, s_144_12, s_144_13, s_144_14, s_144_15, s_144_16, s_144_17, s_144_20, s_144_21, s_144_22, c1, i_1s, i_sub, e, i_in, i_cl, true_and]
  rw [← hN]
  refine Eq.trans q ?_
  rw [s_144_23]
  simp (disch := omega) only [s_144_24, s_144_250, ↓reduceIte, i_0l, Nat.lt_irrefl]
end GP
