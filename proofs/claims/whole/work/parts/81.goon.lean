/-! hours: goOn, the reference's one hour from one state -/
/-- states that one hour makes of one, by children of a set, beside what is given -/
def PS (S : Nat → Nat → Nat) (s X F th j : Nat) : Prop := ∃ l, MTS S s X F l ∧ val (pcn s) th l = j
def mk1 (M M1 : Nat → Nat → Int32) (P : Nat → Prop) : Prop := ∀ j, (P j → M1 62 j = nI 1) ∧ (¬ P j → M1 62 j = M 62 j)
theorem mk1_tr {M M1 M2 : Nat → Nat → Int32} {P R : Nat → Prop} (a : mk1 M M1 P) (b : mk1 M1 M2 R) : mk1 M M2 (fun j => P j ∨ R j) := fun j => by
  constructor
  · intro h
    by_cases r : R j
    · exact (b j).1 r
    · rw [(b j).2 r]; exact (a j).1 (h.resolve_right r)
  · intro h
    rw [(b j).2 (fun q => h (Or.inr q)), (a j).2 (fun q => h (Or.inl q))]
theorem mk1_cg {M M1 : Nat → Nat → Int32} {P R : Nat → Prop} (a : mk1 M M1 P) (h : ∀ j, R j ↔ P j) : mk1 M M1 R := fun j => ⟨fun q => (a j).1 ((h j).mp q), fun q => (a j).2 (fun z => q ((h j).mpr z))⟩
/-- a stack, its top first -/
def stk (M : Nat → Nat → Int32) (p : Nat) : List (Nat × Nat) → Prop
  | [] => True
  | e :: E => M 64 (p + E.length) = nI e.1 ∧ M 65 (p + E.length) = nI e.2 ∧ stk M p E
def bel (p : Nat) (M M1 : Nat → Nat → Int32) : Prop := ∀ j, j < p → M1 64 j = M 64 j ∧ M1 65 j = M 65 j
theorem stk_eq {M M1 : Nat → Nat → Int32} {p : Nat} : ∀ E, stk M p E → bel (p + E.length) M M1 → stk M1 p E := by
  intro E
  induction E with
  | nil => intro _ _; trivial
  | cons e E ih =>
    intro h hb
    rw [List.length_cons] at hb
    obtain ⟨h1, h2, h3⟩ := h
    obtain ⟨q1, q2⟩ := hb (p + E.length) (by omega)
    exact ⟨q1.trans h1, q2.trans h2, ih h3 (fun j hj => hb j (by omega))⟩
def frG2 (M M1 : Nat → Nat → Int32) : Prop := ∀ c, c ≠ 62 → c ≠ 64 → c ≠ 65 → M1 c = M c
theorem frG2_M {M M1 : Nat → Nat → Int32} {S : Nat → Nat → Nat} (h : frG2 M M1) (hC : RepM M S) : RepM M1 S := RepM_eq hC (fun j _ _ => by rw [h 53 (by decide) (by decide) (by decide)]) (fun c h1 h2 => h c (by omega) (by omega) (by omega))
theorem frG2_T {M M1 : Nat → Nat → Int32} {s : Nat} (h : frG2 M M1) (hT : TH M s) : TH M1 s := ⟨by rw [h 53 (by decide) (by decide) (by decide)]; exact hT.1, fun i hi => by rw [h 63 (by decide) (by decide) (by decide)]; exact hT.2 i hi⟩
def GOk (S : Nat → Nat → Nat) (s X k : Nat) : Prop := ∀ lx xs M p F th, RepM M S → TH M s → pcn F ≤ k → sub F (aln S) → sub th (fl S s) → p + 25 * k + 1 ≤ 4096 → M 64 p = nI F → M 65 p = nI th → ∃ M1, frG2 M M1 ∧ bel p M M1 ∧ mk1 M M1 (PS S s X F th) ∧ ∀ d Q o3 o4 o5 o6 o7 o8 o9 o10, ∃ o3' o4' o5' o6' o7' o8' o9' o10', Go (d + 2) 144 23 [some (.ref 53), some (.int (nI X)), some (.int (nI (p + 1))), o3, o4, o5, o6, o7, o8, o9, o10] [] (HP lx xs M) Q = Go (d + 2) 144 23 [some (.ref 53), some (.int (nI X)), some (.int (nI p)), o3', o4', o5', o6', o7', o8', o9', o10'] [] (HP lx xs M1) Q
def te (a b k : Nat) : Nat := if k % 2 = 0 then a else b
section GO
variable {S : Nat → Nat → Nat} {s X st a b p R F th k : Nat}
theorem seg (hk : GOk S s X k) : ∀ (E : List (Nat × Nat)) lx xs M p, RepM M S → TH M s → (∀ e, e ∈ E → pcn e.1 ≤ k ∧ sub e.1 (aln S) ∧ sub e.2 (fl S s)) → p + E.length + 25 * k ≤ 4096 → stk M p E → ∃ M1, frG2 M M1 ∧ bel p M M1 ∧ mk1 M M1 (fun j => ∃ e, e ∈ E ∧ PS S s X e.1 e.2 j) ∧ ∀ d Q o3 o4 o5 o6 o7 o8 o9 o10, ∃ o3' o4' o5' o6' o7' o8' o9' o10', Go (d + 2) 144 23 [some (.ref 53), some (.int (nI X)), some (.int (nI (p + E.length))), o3, o4, o5, o6, o7, o8, o9, o10] [] (HP lx xs M) Q = Go (d + 2) 144 23 [some (.ref 53), some (.int (nI X)), some (.int (nI p)), o3', o4', o5', o6', o7', o8', o9', o10'] [] (HP lx xs M1) Q := by
  intro E
  induction E with
  | nil =>
    intro lx xs M p hC hT _ _ _
    refine ⟨M, fun _ _ _ _ => rfl, fun _ _ => ⟨rfl, rfl⟩, fun j => ⟨fun ⟨e, he, _⟩ => (by cases he), fun _ => rfl⟩, fun d Q o3 o4 o5 o6 o7 o8 o9 o10 => ⟨o3, o4, o5, o6, o7, o8, o9, o10, rfl⟩⟩
  | cons e E ih =>
    intro lx xs M p hC hT hE hp hst
    rw [List.length_cons] at hp
    obtain ⟨s1, s2, s3⟩ := hst
    obtain ⟨e1, e2, e3⟩ := hE e List.mem_cons_self
    obtain ⟨M1, r1, r2, r3, r4⟩ := hk lx xs M (p + E.length) e.1 e.2 hC hT e1 e2 e3 (by omega) s1 s2
    obtain ⟨M2, u1, u2, u3, u4⟩ := ih lx xs M1 p (frG2_M r1 hC) (frG2_T r1 hT) (fun e he => hE e (List.mem_cons_of_mem _ he)) (by omega) (stk_eq E s3 r2)
    refine ⟨M2, fun c h1 h2 h3 => (u1 c h1 h2 h3).trans (r1 c h1 h2 h3), fun j hj => ⟨(u2 j hj).1.trans (r2 j (by omega)).1, (u2 j hj).2.trans (r2 j (by omega)).2⟩, mk1_cg (mk1_tr r3 u3) (fun j => ?_), fun d Q o3 o4 o5 o6 o7 o8 o9 o10 => ?_⟩
    · constructor
      · rintro ⟨e', q1, q2⟩
        rcases List.mem_cons.mp q1 with z | z
        · rw [z] at q2; exact Or.inl q2
        · exact Or.inr ⟨e', z, q2⟩
      · rintro (q | ⟨e', q1, q2⟩)
        · exact ⟨e, List.mem_cons_self, q⟩
        · exact ⟨e', List.mem_cons_of_mem _ q1, q2⟩
    · obtain ⟨a3, a4, a5, a6, a7, a8, a9, a10, q⟩ := r4 d Q o3 o4 o5 o6 o7 o8 o9 o10
      obtain ⟨b3, b4, b5, b6, b7, b8, b9, b10, q'⟩ := u4 d Q a3 a4 a5 a6 a7 a8 a9 a10
      exact ⟨b3, b4, b5, b6, b7, b8, b9, b10, q.trans q'⟩
theorem in_go (hW : WF S) (hs : s < 16) (hb : S 0 0 * pcn s ≤ 12) (hst : stP S s (pcn s) 0 st) (hX : sub st X) (hX4 : X < 4096) (ha : a < S 0 0) (hb' : b < S 0 0) (hR : R < 64) (hRb : R.testBit b = true) (hth : th < 4096) (hF : F < 64) : ∀ m kk lx xs M E, kk + m = 2 * pcn s → RepM M S → TH M s → stk M p E → p + E.length + m ≤ 4096 → ∃ M1 E1, frG2 M M1 ∧ M1 62 = M 62 ∧ bel p M M1 ∧ stk M1 p E1 ∧ E1.length ≤ E.length + m ∧ (∀ e, e ∈ E1 ↔ e ∈ E ∨ ∃ k, kk ≤ k ∧ k < 2 * pcn s ∧ mT S s X (te a b k) (te b a k) (k / 2) = true ∧ e = (wo R (2 ^ b), th ||| 2 ^ (te b a k * pcn s + k / 2))) ∧ ∀ d Q o9 o10, ∃ o9' o10', Go (d + 2) 144 125 [some (.ref 53), some (.int (nI X)), some (.int (nI (p + E.length))), some (.int (nI F)), some (.int (nI th)), some (.int (nI a)), some (.int (nI R)), some (.int (nI b)), some (.int (nI kk)), o9, o10] [] (HP lx xs M) Q = Go (d + 2) 144 241 [some (.ref 53), some (.int (nI X)), some (.int (nI (p + E1.length))), some (.int (nI F)), some (.int (nI th)), some (.int (nI a)), some (.int (nI R)), some (.int (nI b)), some (.int (nI (2 * pcn s))), o9', o10'] [] (HP lx xs M1) Q := by
  have w1 := hW.1
  have w4 := (th_rk s hs).2.2
  intro m
  induction m with
  | zero =>
    intro kk lx xs M E hk hC hT hE hp
    have e : kk = 2 * pcn s := by omega
    subst e
    have h17 := hT.1
    refine ⟨M, E, fun _ _ _ _ => rfl, rfl, fun _ _ => ⟨rfl, rfl⟩, hE, by omega, fun e => ⟨Or.inl, ?_⟩, fun d Q o9 o10 => ⟨o9, o10, ?_⟩⟩
    · rintro (q | ⟨k, q1, q2, -⟩)
      · exact q
      · omega
    · rw [s_144_125]
      simp (disch := omega) only [s_144_127, s_144_128, s_144_129, s_144_132, s_144_133, ↓reduceIte, h17, i_mul, i_lt, Nat.lt_irrefl]
  | succ m ih =>
    intro kk lx xs M E hk hC hT hE hp
    have hk2 : kk < 2 * pcn s := by omega
    have h17 := hT.1
    have hta : te a b kk < S 0 0 := by unfold te; split <;> omega
    have htb : te b a kk < S 0 0 := by unfold te; split <;> omega
    have hi : kk / 2 < pcn s := by omega
    have mt := fun d Q => c_X7_mayTeach (d := d) (Q := Q) (lx := lx) (xs := xs) hW hs hb hC hT hst hX hX4 hta htb hi
    have s1 : ∀ d Q o9 o10, Go (d + 2) 144 125 [some (.ref 53), some (.int (nI X)), some (.int (nI (p + E.length))), some (.int (nI F)), some (.int (nI th)), some (.int (nI a)), some (.int (nI R)), some (.int (nI b)), some (.int (nI kk)), o9, o10] [] (HP lx xs M) Q = Go (d + 2) 144 178 [some (.ref 53), some (.int (nI X)), some (.int (nI (p + E.length))), some (.int (nI F)), some (.int (nI th)), some (.int (nI a)), some (.int (nI R)), some (.int (nI b)), some (.int (nI kk)), some (.int (nI (te a b kk))), some (.int (nI (te b a kk)))] [] (HP lx xs M) Q := by
      intro d Q o9 o10
      have n2 : (nI 2 = 0) = False := by decide
      rw [s_144_125]
      unfold te
      by_cases z : kk % 2 = 0
      · have z' : (kk % 2 = 0) = True := eq_true z
        rw [if_pos z, if_pos z]
        simp (disch := omega) only [s_144_127, s_144_128, s_144_129, s_144_132, s_144_133, s_144_136, s_144_138, s_144_140, s_144_143, s_144_146, s_144_148, s_144_149, s_144_150, s_144_153, s_144_155, s_144_158, s_144_160, s_144_162, s_144_164, s_144_165, s_144_166, s_144_169, s_144_171, s_144_174, s_144_176, ↓reduceIte, h17, i_mul, i_lt, hk2, c_X7_has, hRb, ap_some, bI_0, Bool.true_eq_false, n2, not_false_eq_true, true_and, i_rem, i_e0, z']
      · have z' : (kk % 2 = 0) = False := eq_false z
        rw [if_neg z, if_neg z]
        simp (disch := omega) only [s_144_127, s_144_128, s_144_129, s_144_132, s_144_133, s_144_136, s_144_138, s_144_140, s_144_143, s_144_146, s_144_148, s_144_149, s_144_150, s_144_153, s_144_155, s_144_158, s_144_160, s_144_162, s_144_164, s_144_165, s_144_166, s_144_169, s_144_171, s_144_174, s_144_176, ↓reduceIte, h17, i_mul, i_lt, hk2, c_X7_has, hRb, ap_some, bI_0, Bool.true_eq_false, n2, not_false_eq_true, true_and, i_rem, i_e0, z']
    by_cases hm : mT S s X (te a b kk) (te b a kk) (kk / 2) = true
    · obtain ⟨N, hN⟩ : ∃ N, N = up (up M 64 (p + E.length) (nI (wo R (2 ^ b)))) 65 (p + E.length) (nI (th ||| 2 ^ (te b a kk * pcn s + kk / 2))) := ⟨_, rfl⟩
      have nf : ∀ c, c ≠ 64 → c ≠ 65 → N c = M c := fun c h1 h2 => by rw [hN, up_ne _ _ _ h2, up_ne _ _ _ h1]
      have nfr : frG2 M N := fun c _ h2 h3 => nf c h2 h3
      have nb : bel (p + E.length) M N := fun j hj => ⟨by rw [hN, up_ne _ _ _ (by decide), up_off (by omega)], by rw [hN, up_off (by omega), up_ne _ _ _ (by decide)]⟩
      have nE : stk N p ((wo R (2 ^ b), th ||| 2 ^ (te b a kk * pcn s + kk / 2)) :: E) := ⟨by rw [hN, up_ne _ _ _ (by decide), up_at], by rw [hN, up_at], stk_eq E hE nb⟩
      obtain ⟨M1, E1, r1, r2, r3, r4, r5, r6, r7⟩ := ih (kk + 1) lx xs N _ (by omega) (frG2_M nfr hC) (frG2_T nfr hT) nE (by rw [List.length_cons]; omega)
      rw [List.length_cons] at r5
      refine ⟨M1, E1, fun c h1 h2 h3 => (r1 c h1 h2 h3).trans (nfr c h1 h2 h3), r2.trans (nf 62 (by decide) (by decide)), fun j hj => ⟨(r3 j hj).1.trans (nb j (by omega)).1, (r3 j hj).2.trans (nb j (by omega)).2⟩, r4, by omega, fun e => ?_, fun d Q o9 o10 => ?_⟩
      · rw [r6]
        constructor
        · rintro (q | ⟨k, q1, q2⟩)
          · rcases List.mem_cons.mp q with z | z
            · exact Or.inr ⟨kk, by omega, hk2, hm, z⟩
            · exact Or.inl z
          · exact Or.inr ⟨k, by omega, q2⟩
        · rintro (q | ⟨k, q1, q2, q3, q4⟩)
          · exact Or.inl (List.mem_cons_of_mem _ q)
          · by_cases z : k = kk
            · rw [z] at q4; left; rw [q4]; exact List.mem_cons_self
            · exact Or.inr ⟨k, by omega, q2, q3, q4⟩
      · obtain ⟨o9', o10', q⟩ := r7 d Q (some (.int (nI (te a b kk)))) (some (.int (nI (te b a kk))))
        refine ⟨o9', o10', ?_⟩
        rw [s1, ← q, hN, List.length_cons]
        have n2 : (nI 2 = 0) = False := by decide
        have cm := Nat.mul_comm (pcn s) (te b a kk)
        have pb := pos_lt htb hi
        have pl : te b a kk * pcn s + kk / 2 < 31 := by omega
        simp (disch := omega) only [s_144_178, s_144_179, s_144_180, s_144_182, s_144_184, s_144_186, s_144_187, s_144_188, s_144_191, s_144_194, s_144_195, s_144_198, s_144_199, s_144_201, s_144_202, s_144_204, s_144_205, s_144_206, s_144_207, s_144_208, s_144_209, s_144_210, s_144_213, s_144_214, s_144_216, s_144_217, s_144_218, s_144_221, s_144_223, s_144_224, s_144_226, s_144_227, s_144_228, s_144_229, s_144_230, s_144_231, s_144_232, s_144_235, s_144_238, ↓reduceIte, n2, not_false_eq_true, true_and, i_div, mt, hm, ap_some, bI_0, Bool.true_eq_false, i_in, i_cl, i_1s, i_wo, up_ne, ne_eq, reduceCtorEq, h17, i_mul, cm, i_add, i_or, Nat.add_assoc]
    · rw [Bool.not_eq_true] at hm
      obtain ⟨M1, E1, r1, r2, r3, r4, r5, r6, r7⟩ := ih (kk + 1) lx xs M E (by omega) hC hT hE (by omega)
      refine ⟨M1, E1, r1, r2, r3, r4, by omega, fun e => ?_, fun d Q o9 o10 => ?_⟩
      · rw [r6]
        constructor
        · rintro (q | ⟨k, q1, q2⟩)
          · exact Or.inl q
          · exact Or.inr ⟨k, by omega, q2⟩
        · rintro (q | ⟨k, q1, q2, q3, q4⟩)
          · exact Or.inl q
          · by_cases z : k = kk
            · rw [z, hm] at q3; cases q3
            · exact Or.inr ⟨k, by omega, q2, q3, q4⟩
      · obtain ⟨o9', o10', q⟩ := r7 d Q (some (.int (nI (te a b kk)))) (some (.int (nI (te b a kk))))
        refine ⟨o9', o10', ?_⟩
        rw [s1, ← q]
        have n2 : (nI 2 = 0) = False := by decide
        simp (disch := omega) only [s_144_178, s_144_179, s_144_180, s_144_182, s_144_184, s_144_186, s_144_187, s_144_188, s_144_191, s_144_235, s_144_238, ↓reduceIte, n2, not_false_eq_true, true_and, i_div, mt, hm, ap_some, bI_0, i_add]
theorem out_go (hW : WF S) (hs : s < 16) (hb : S 0 0 * pcn s ≤ 12) (hst : stP S s (pcn s) 0 st) (hX : sub st X) (hX4 : X < 4096) (ha : a < S 0 0) (hR : R < 64) (hth : th < 4096) (hF : F < 64) : ∀ m b lx xs M E, b + m = S 0 0 → RepM M S → TH M s → stk M p E → p + E.length + m * (2 * pcn s) ≤ 4096 → ∃ M1 E1, frG2 M M1 ∧ M1 62 = M 62 ∧ bel p M M1 ∧ stk M1 p E1 ∧ E1.length ≤ E.length + m * (2 * pcn s) ∧ (∀ e, e ∈ E1 ↔ e ∈ E ∨ ∃ b' k, b ≤ b' ∧ b' < S 0 0 ∧ R.testBit b' = true ∧ k < 2 * pcn s ∧ mT S s X (te a b' k) (te b' a k) (k / 2) = true ∧ e = (wo R (2 ^ b'), th ||| 2 ^ (te b' a k * pcn s + k / 2))) ∧ ∀ d Q o8 o9 o10, ∃ o8' o9' o10', Go (d + 2) 144 113 [some (.ref 53), some (.int (nI X)), some (.int (nI (p + E.length))), some (.int (nI F)), some (.int (nI th)), some (.int (nI a)), some (.int (nI R)), some (.int (nI b)), o8, o9, o10] [] (HP lx xs M) Q = Go (d + 2) 144 23 [some (.ref 53), some (.int (nI X)), some (.int (nI (p + E1.length))), some (.int (nI F)), some (.int (nI th)), some (.int (nI a)), some (.int (nI R)), some (.int (nI (S 0 0))), o8', o9', o10'] [] (HP lx xs M1) Q := by
  have w1 := hW.1
  have w4 := (th_rk s hs).2.2
  intro m
  induction m with
  | zero =>
    intro b lx xs M E hk hC hT hE hp
    have e : b = S 0 0 := by omega
    subst e
    have c1 := hC.1
    refine ⟨M, E, fun _ _ _ _ => rfl, rfl, fun _ _ => ⟨rfl, rfl⟩, hE, by omega, fun e => ⟨Or.inl, ?_⟩, fun d Q o8 o9 o10 => ⟨o8, o9, o10, ?_⟩⟩
    · rintro (q | ⟨b', k, q1, q2, -⟩)
      · exact q
      · omega
    · rw [s_144_113]
      simp (disch := omega) only [s_144_115, s_144_116, s_144_119, s_144_247, ↓reduceIte, c1, i_lt, Nat.lt_irrefl]
  | succ m ih =>
    intro b lx xs M E hk hC hT hE hp
    rw [Nat.succ_mul] at hp
    have hb2 : b < S 0 0 := by omega
    have c1 := hC.1
    have h17 := hT.1
    by_cases hRb : R.testBit b = true
    · obtain ⟨M1, E1, r1, r2, r3, r4, r5, r6, r7⟩ := in_go (p := p) (F := F) hW hs hb hst hX hX4 ha hb2 hR hRb hth hF (2 * pcn s) 0 lx xs M E (by omega) hC hT hE (by omega)
      obtain ⟨M2, E2, u1, u2, u3, u4, u5, u6, u7⟩ := ih (b + 1) lx xs M1 E1 (by omega) (frG2_M r1 hC) (frG2_T r1 hT) r4 (by omega)
      refine ⟨M2, E2, fun c h1 h2 h3 => (u1 c h1 h2 h3).trans (r1 c h1 h2 h3), u2.trans r2, fun j hj => ⟨(u3 j hj).1.trans (r3 j hj).1, (u3 j hj).2.trans (r3 j hj).2⟩, u4, by rw [Nat.succ_mul]; omega, fun e => ?_, fun d Q o8 o9 o10 => ?_⟩
      · rw [u6, r6]
        constructor
        · rintro ((q | ⟨k, q1, q2, q3, q4⟩) | ⟨b', k, q1, q2⟩)
          · exact Or.inl q
          · exact Or.inr ⟨b, k, Nat.le_refl _, hb2, hRb, q2, q3, q4⟩
          · exact Or.inr ⟨b', k, by omega, q2⟩
        · rintro (q | ⟨b', k, q1, q2, q3, q4, q5, q6⟩)
          · exact Or.inl (Or.inl q)
          · by_cases z : b' = b
            · rw [z] at q5 q6; exact Or.inl (Or.inr ⟨k, Nat.zero_le _, q4, q5, q6⟩)
            · exact Or.inr ⟨b', k, by omega, q2, q3, q4, q5, q6⟩
      · obtain ⟨o9', o10', q⟩ := r7 d Q o9 o10
        obtain ⟨o8'', o9'', o10'', q'⟩ := u7 d Q (some (.int (nI (2 * pcn s)))) o9' o10'
        refine ⟨o8'', o9'', o10'', ?_⟩
        rw [← q', s_144_113]
        simp (disch := omega) only [s_144_115, s_144_116, s_144_119, s_144_122, s_144_123, ↓reduceIte, c1, i_lt, hb2]
        refine Eq.trans q ?_
        simp (disch := omega) only [s_144_241, s_144_244, i_add]
    · obtain ⟨M2, E2, u1, u2, u3, u4, u5, u6, u7⟩ := ih (b + 1) lx xs M E (by omega) hC hT hE (by omega)
      refine ⟨M2, E2, u1, u2, u3, u4, by rw [Nat.succ_mul]; omega, fun e => ?_, fun d Q o8 o9 o10 => ?_⟩
      · rw [u6]
        constructor
        · rintro (q | ⟨b', k, q1, q2⟩)
          · exact Or.inl q
          · exact Or.inr ⟨b', k, by omega, q2⟩
        · rintro (q | ⟨b', k, q1, q2, q3, q4⟩)
          · exact Or.inl q
          · by_cases z : b' = b
            · rw [z] at q3; exact absurd q3 hRb
            · exact Or.inr ⟨b', k, by omega, q2, q3, q4⟩
      · obtain ⟨o8'', o9'', o10'', q'⟩ := u7 d Q (some (.int (nI 0))) o9 o10
        refine ⟨o8'', o9'', o10'', ?_⟩
        rw [Bool.not_eq_true] at hRb
        rw [← q', s_144_113]
        by_cases z : 0 < 2 * pcn s
        · simp (disch := omega) only [s_144_115, s_144_116, s_144_119, s_144_122, s_144_123, s_144_125, s_144_127, s_144_128, s_144_129, s_144_132, s_144_133, s_144_136, s_144_138, s_144_140, s_144_143, s_144_241, s_144_244, ↓reduceIte, c1, i_lt, hb2, h17, i_mul, z, c_X7_has, hRb, ap_some, bI_0, i_add]
        · simp (disch := omega) only [s_144_115, s_144_116, s_144_119, s_144_122, s_144_123, s_144_125, s_144_127, s_144_128, s_144_129, s_144_132, s_144_133, s_144_136, s_144_138, s_144_140, s_144_143, s_144_241, s_144_244, ↓reduceIte, c1, i_lt, hb2, h17, i_mul, z, i_add]
end GO
