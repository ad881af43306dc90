/-! a plan's text: class and reference alike -/
def PW (P : Nat → Nat → Nat) (k c : Nat) : Prop := ∀ i, i < k → P 6 i < c ∧ P 7 i < c ∧ P 6 i ≠ P 7 i ∧ P 8 i < 4 ∧ P 9 i ≤ i ∧ (0 < i → P 9 (i - 1) ≤ P 9 i ∧ P 9 i ≤ P 9 (i - 1) + 1)
def RDi (M : Nat → Nat → Int32) (k : Nat) (P : Nat → Nat → Nat) : Prop := ∀ i, i < k → M 60 (4 * i) = nI (P 6 i) ∧ M 60 (4 * i + 1) = nI (P 7 i) ∧ M 60 (4 * i + 2) = nI (P 8 i) ∧ M 60 (4 * i + 3) = nI (P 9 i)
def setP (P : Nat → Nat → Nat) (k a b t h : Nat) : Nat → Nat → Nat := fun r i => if i = k then (if r = 6 then a else if r = 7 then b else if r = 8 then t else h) else P r i
def frR (M M1 : Nat → Nat → Int32) : Prop := (∀ c, c ≠ 28 → c ≠ 29 → c ≠ 30 → c ≠ 31 → c ≠ 32 → c ≠ 33 → M1 c = M c)
def frQ (M M1 : Nat → Nat → Int32) : Prop := (∀ c, c ≠ 53 → c ≠ 60 → M1 c = M c) ∧ (∀ j, j ≠ 11 → j ≠ 12 → M1 53 j = M 53 j)
def hok (P : Nat → Nat → Nat) (k h : Nat) : Prop := (k = 0 ∧ h = 0) ∨ (0 < k ∧ (h = P 9 (k - 1) ∨ h = P 9 (k - 1) + 1))
def opk (P : Nat → Nat → Nat) (k h : Nat) : Bool := decide (k = 0 ∨ h ≠ P 9 (k - 1))
theorem setP_at {P : Nat → Nat → Nat} {k a b t h : Nat} : setP P k a b t h 6 k = a ∧ setP P k a b t h 7 k = b ∧ setP P k a b t h 8 k = t ∧ setP P k a b t h 9 k = h := by
  unfold setP; simp
theorem setP_off {P : Nat → Nat → Nat} {k a b t h r i : Nat} (hi : i ≠ k) : setP P k a b t h r i = P r i := if_neg hi
section PB
variable {lx : Nat} {xs : Nat → Int32} {M : Nat → Nat → Int32} {T : Nat → Nat} {n c k a b t h o : Nat} {P : Nat → Nat → Nat}
theorem PW_set (hP : PW P k c) (hh : hok P k h) (h1 : a < c) (h2 : b < c) (h3 : a ≠ b) (h4 : t < 4) : PW (setP P k a b t h) (k + 1) c := by
  intro i hi
  by_cases e : i = k
  · subst e
    obtain ⟨e6, e7, e8, e9⟩ := setP_at (P := P) (k := i) (a := a) (b := b) (t := t) (h := h)
    rw [e6, e7, e8, e9]
    unfold hok at hh
    refine ⟨h1, h2, h3, h4, ?_, fun h0 => ?_⟩
    · by_cases h0 : i = 0
      · omega
      · have := (hP (i - 1) (by omega)).2.2.2.2.1
        omega
    · rw [setP_off (by omega)]
      omega
  · obtain ⟨q1, q2, q3, q4, q5, q6⟩ := hP i (by omega)
    rw [setP_off e, setP_off e, setP_off e, setP_off e]
    exact ⟨q1, q2, q3, q4, q5, fun h0 => by rw [setP_off (by omega)]; exact q6 h0⟩
theorem hrc_set (hh : hok P k h) : hrc (setP P k a b t h) (k + 1) = if opk P k h = true then hrc P k + 1 else hrc P k := by
  unfold hrc opk
  unfold hok at hh
  rw [if_neg (by omega), Nat.add_sub_cancel, setP_at.2.2.2]
  by_cases h0 : k = 0
  · subst h0; simp; omega
  · by_cases h9 : h = P 9 (k - 1)
    · simp [h0, h9]
    · simp [h0, h9]; omega
theorem opn_set : opn (setP P k a b t h) k = opk P k h := by
  unfold opn opk
  by_cases h0 : k = 0
  · simp [h0]
  · rw [setP_at.2.2.2, setP_off (by omega)]
theorem PRi_set (hh : hok P k h) (hp : PRi M o k P) : PRi (up (up (up (up M (o + 1) k (nI ((a * 6 + b) * 4 + t))) (o + 2) k (bI (opk P k h))) o 0 (nI (k + 1))) o 1 (nI (if opk P k h = true then hrc P k + 1 else hrc P k))) o (k + 1) (setP P k a b t h) := by
  obtain ⟨a1, a2, a3, a4⟩ := hp
  refine ⟨?_, ?_, fun i hi => ?_, fun i hi => ?_⟩
  · rw [up_off (by decide), up_at]
  · rw [up_at, hrc_set hh]
  · rw [up_ne _ _ _ (by omega), up_ne _ _ _ (by omega), up_ne _ _ _ (by omega)]
    by_cases e : i = k
    · subst e; rw [up_at, setP_at.1, setP_at.2.1, setP_at.2.2.1]
    · rw [up_off e, setP_off e, setP_off e, setP_off e]; exact a3 i (by omega)
  · rw [up_ne _ _ _ (by omega), up_ne _ _ _ (by omega)]
    by_cases e : i = k
    · subst e; rw [up_at, opn_set]
    · rw [up_off e, up_ne _ _ _ (by omega), a4 i (by omega)]
      congr 1
      unfold opn
      rw [setP_off e, setP_off (by omega)]
theorem RDi_set {p : Nat} (hr : RDi M k P) : RDi (up (up (rdM M (4 * k) p (some (a, b, t))) 60 (4 * k + 3) (nI h)) 53 12 (nI (k + 1))) (k + 1) (setP P k a b t h) := by
  intro i hi
  simp only [rdM]
  simp only [up_ne _ _ _ (by decide : (60 : Nat) ≠ 53)]
  by_cases e : i = k
  · subst e
    obtain ⟨e6, e7, e8, e9⟩ := setP_at (P := P) (k := i) (a := a) (b := b) (t := t) (h := h)
    rw [e6, e7, e8, e9]
    refine ⟨?_, ?_, ?_, up_at⟩
    · rw [up_off (by omega), up_off (by omega), up_off (by omega), up_at]
    · rw [up_off (by omega), up_off (by omega), up_at]
    · rw [up_off (by omega), up_at]
  · have q := hr i (by omega)
    rw [setP_off e, setP_off e, setP_off e, setP_off e]
    refine ⟨?_, ?_, ?_, ?_⟩
    · rw [up_off (by omega), up_off (by omega), up_off (by omega), up_off (by omega), up_ne _ _ _ (by decide)]; exact q.1
    · rw [up_off (by omega), up_off (by omega), up_off (by omega), up_off (by omega), up_ne _ _ _ (by decide)]; exact q.2.1
    · rw [up_off (by omega), up_off (by omega), up_off (by omega), up_off (by omega), up_ne _ _ _ (by decide)]; exact q.2.2.1
    · rw [up_off (by omega), up_off (by omega), up_off (by omega), up_off (by omega), up_ne _ _ _ (by decide)]; exact q.2.2.2
theorem RDi_up (hr : RDi M k P) {j : Nat} {x : Int32} : RDi (up M 53 j x) k P := fun i hi => by rw [up_ne _ _ _ (by decide)]; exact hr i hi
theorem frQ_rd {p at0 : Nat} {v : Option (Nat × Nat × Nat)} : frQ M (rdM M at0 p v) := by
  refine ⟨fun c h1 h2 => ?_, fun j h1 h2 => ?_⟩
  · cases v with
    | none => exact up_ne _ _ _ h1
    | some w => obtain ⟨a, b, t⟩ := w; simp only [rdM]; rw [up_ne _ _ _ h2, up_ne _ _ _ h2, up_ne _ _ _ h2, up_ne _ _ _ h1]
  · cases v with
    | none => exact up_off h1
    | some w => obtain ⟨a, b, t⟩ := w; simp only [rdM]; rw [up_ne _ _ _ (by decide), up_ne _ _ _ (by decide), up_ne _ _ _ (by decide), up_off h1]
theorem rdM_place {p at0 : Nat} {v : Option (Nat × Nat × Nat)} : rdM M at0 p v 53 11 = nI p := by
  cases v with
  | none => exact up_at
  | some w => obtain ⟨a, b, t⟩ := w; simp only [rdM]; rw [up_ne _ _ _ (by decide), up_ne _ _ _ (by decide), up_ne _ _ _ (by decide), up_at]
theorem frQ_TPM {M1 : Nat → Nat → Int32} (hT : TPM M n T) (hf : frQ M M1) : TPM M1 n T := by
  obtain ⟨a1, a2, a3, a4⟩ := hT
  exact ⟨by rw [hf.2 10 (by decide) (by decide)]; exact a1, fun i hi => by rw [hf.1 59 (by decide) (by decide)]; exact a2 i hi, a3, a4⟩
theorem frQ_tr {M1 M2 : Nat → Nat → Int32} (a : frQ M M1) (b : frQ M1 M2) : frQ M M2 := ⟨fun c h1 h2 => (b.1 c h1 h2).trans (a.1 c h1 h2), fun j h1 h2 => (b.2 j h1 h2).trans (a.2 j h1 h2)⟩
theorem frQ_up {M1 : Nat → Nat → Int32} (a : frQ M M1) {r j : Nat} {x : Int32} (h : r = 60 ∨ (r = 53 ∧ (j = 11 ∨ j = 12))) : frQ M (up M1 r j x) := by
  refine ⟨fun c h1 h2 => ?_, fun i h1 h2 => ?_⟩
  · rw [up_ne _ _ _ (by omega)]; exact a.1 c h1 h2
  · rcases h with rfl | ⟨rfl, h⟩
    · rw [up_ne _ _ _ (by decide)]; exact a.2 i h1 h2
    · rw [up_off (by omega)]; exact a.2 i h1 h2
theorem frR_tr {M1 M2 : Nat → Nat → Int32} (a : frR M M1) (b : frR M1 M2) : frR M M2 := fun c h1 h2 h3 h4 h5 h6 => (b c h1 h2 h3 h4 h5 h6).trans (a c h1 h2 h3 h4 h5 h6)
theorem frR_up {M1 : Nat → Nat → Int32} (a : frR M M1) {r j : Nat} {x : Int32} (h : 28 ≤ r ∧ r ≤ 33) : frR M (up M1 r j x) := fun c h1 h2 h3 h4 h5 h6 => by rw [up_ne _ _ _ (by omega)]; exact a c h1 h2 h3 h4 h5 h6
end PB
set_option maxHeartbeats 1000000 in
theorem pl_both {T : Nat → Nat} {n c : Nat} (hc : c ≤ 6) (hn : n ≤ 160) (t4 : ∀ i, i < n → 32 ≤ T i ∧ T i ≤ 126) : ∀ m k q h P, k + m = 23 → q ≤ n → PW P k c → hok P k h →
 (∃ f, f ≤ n ∧ (∀ lx xs M, TPC M n T → M 28 5 = nI q → PRi M 31 k P → ∃ M1, frR M M1 ∧ ∀ d Q o4, Go (d + 4) 90 56 [some (.ref 28), some (.int (nI c)), some (.int (nI k)), some (.int (bI (opk P k h))), o4] [] (HP lx xs M) Q = Q (some (.int (-20 - nI f))) (HP lx xs M1)) ∧
   (∀ lx xs M p, TPM M n T → M 53 4 = nI c → M 53 11 = nI p → p ≤ n → sk T n p = q → RDi M k P → ∃ M1 p', frQ M M1 ∧ M1 53 11 = nI p' ∧ p' ≤ n ∧ sk T n p' = f ∧ ∀ d Q o3, Go (d + 3) 135 9 [some (.ref 53), some (.int (nI h)), some (.int (nI k)), o3] [] (HP lx xs M) Q = Q (some (.int (nI 0))) (HP lx xs M1))) ∨
 (∃ K P1, 0 < K ∧ K ≤ 24 ∧ PW P1 K c ∧ (∀ lx xs M, TPC M n T → M 28 5 = nI q → PRi M 31 k P → ∃ M1, frR M M1 ∧ PRi M1 31 K P1 ∧ ∀ d Q o4, Go (d + 4) 90 56 [some (.ref 28), some (.int (nI c)), some (.int (nI k)), some (.int (bI (opk P k h))), o4] [] (HP lx xs M) Q = Q (some (.int (nI K))) (HP lx xs M1)) ∧
   (∀ lx xs M p, TPM M n T → M 53 4 = nI c → M 53 11 = nI p → p ≤ n → sk T n p = q → RDi M k P → ∃ M1, frQ M M1 ∧ M1 53 12 = nI K ∧ RDi M1 K P1 ∧ ∀ d Q o3, Go (d + 3) 135 9 [some (.ref 53), some (.int (nI h)), some (.int (nI k)), o3] [] (HP lx xs M) Q = Q (some (.int (nI 1))) (HP lx xs M1))) := by
  intro m
  induction m using Nat.strongRecOn with
  | _ m ih =>
  intro k q h P hk hq hP hh
  have hk24 : k < 24 := by omega
  have hrl := (rt_le (T := T) (c := c) hq).1
  have hhk : h ≤ k := by
    unfold hok at hh
    by_cases h0 : k = 0
    · omega
    · have := (hP (k - 1) (by omega)).2.2.2.2.1
      omega
  -- how both read the teaching
  have r6 : ∀ lx xs M, TPC M n T → M 28 5 = nI q → ∀ d Q, Go (d + 3) 91 0 [some (.ref 28), some (.int (nI c)), none, none, none] [] (HP lx xs M) Q = Q (some (.int (rtV (rtT T n c q).2))) (HP lx xs (up M 28 5 (nI (rtT T n c q).1))) := fun lx xs M hT h5 d Q => c_X1_readTeaching hT h5 hq hc
  have r7 : ∀ lx xs M p, TPM M n T → M 53 4 = nI c → M 53 11 = nI p → p ≤ n → sk T n p = q → ∃ p', p' ≤ n ∧ sk T n p' = (rtT T n c q).1 ∧ ∀ d Q, Go (d + 2) 134 0 [some (.ref 53), some (.int (nI (4 * k))), none, none, none] [] (HP lx xs M) Q = Q (some (.int (bI (rtT T n c q).2.isSome))) (HP lx xs (rdM M (4 * k) p' (rtT T n c q).2)) := by
    intro lx xs M p hT h4 h5 hp hs
    have := c_X7_readTeaching (lx := lx) (xs := xs) (at0 := 4 * k) hT h5 hp hc h4 (by omega)
    rw [hs] at this
    exact this
  match hv : (rtT T n c q).2 with
  | none =>
    rw [hv] at r6 r7
    simp only [rtV, Option.isSome] at r6 r7
    left
    refine ⟨(rtT T n c q).1, hrl, fun lx xs M hT h5 hR => ⟨up M 28 5 (nI (rtT T n c q).1), frR_up (fun c _ _ _ _ _ _ => rfl) (by omega), fun d Q o4 => ?_⟩, fun lx xs M p hT h4 h5 hp hs hR => ?_⟩
    · have fa := fun d Q => c_X1_fault (d := d) (Q := Q) (lx := lx) (xs := xs) (M := up M 28 5 (nI (rtT T n c q).1)) up_at
      have z4 : ((-4 : Int32) < 0) = True := by decide
      simp (disch := omega) only [s_90_56, s_90_57, s_90_58, s_90_61, s_90_63, s_90_65, s_90_68, s_90_69, s_90_72, ↓reduceIte, r6 lx xs M hT h5, ap_some, z4, fa]
    · obtain ⟨p', a1, a2, a3⟩ := r7 lx xs M p hT h4 h5 hp hs
      refine ⟨_, p', frQ_rd (p := p') (at0 := 4 * k) (v := none), rdM_place, a1, a2, fun d Q o3 => ?_⟩
      rw [s_135_9]
      simp (disch := omega) only [s_135_10, s_135_12, s_135_15, s_135_16, s_135_17, s_135_18, s_135_19, s_135_22, s_135_25, s_135_26_0, s_135_26_1, sb_135_26, ↓reduceIte, i_lt, hk24, i_mul, a3, ap_some, bI_0]
  | some (a, b, t) =>
    obtain ⟨va, vb, vab, vt⟩ := rt_ok hc hv
    rw [hv] at r6 r7
    simp only [rtV, Option.isSome] at r6 r7
    have hP1 := PW_set (h := h) hP hh va vb vab vt
    -- the class behind the teaching
    have k6 : ∀ lx xs M, TPC M n T → M 28 5 = nI q → PRi M 31 k P → ∃ A, frR M A ∧ TPC A n T ∧ A 28 5 = nI (rtT T n c q).1 ∧ PRi A 31 (k + 1) (setP P k a b t h) ∧ ∀ d Q o4, Go (d + 4) 90 56 [some (.ref 28), some (.int (nI c)), some (.int (nI k)), some (.int (bI (opk P k h))), o4] [] (HP lx xs M) Q = if (rtT T n c q).1 < n then Go (d + 4) 90 99 [some (.ref 28), some (.int (nI c)), some (.int (nI k)), some (.int (bI (opk P k h))), some (.int (nI ((a * 6 + b) * 4 + t)))] [] (HP lx xs A) Q else Q (some (.int (nI (k + 1)))) (HP lx xs A) := by
      intro lx xs M hT h5 hR
      have hR2 : PRi (up M 28 5 (nI (rtT T n c q).1)) 31 k P := by
        obtain ⟨a1, a2, a3, a4⟩ := hR
        exact ⟨by rw [up_ne _ _ _ (by decide)]; exact a1, by rw [up_ne _ _ _ (by decide)]; exact a2, fun i hi => by rw [up_ne _ _ _ (by decide)]; exact a3 i hi, fun i hi => by rw [up_ne _ _ _ (by decide)]; exact a4 i hi⟩
      have ad := fun d Q => c_X0_add (d := d) (Q := Q) (lx := lx) (xs := xs) (q := (a * 6 + b) * 4 + t) (b := opk P k h) (o := 31) (by omega) hR2.1 hR2.2.1 hk24
      have pr := PRi_set (a := a) (b := b) (t := t) (h := h) hh hR2
      simp only [Nat.reduceAdd] at ad pr
      refine ⟨_, frR_up (frR_up (frR_up (frR_up (frR_up (fun c _ _ _ _ _ _ => rfl) (by omega)) (by omega)) (by omega)) (by omega)) (by omega), TPC_ne (TPC_ne (TPC_ne (TPC_ne (TPC_up hT) (by decide) (by decide)) (by decide) (by decide)) (by decide) (by decide)) (by decide) (by decide), ?_, pr, fun d Q o4 => ?_⟩
      · rw [up_ne _ _ _ (by decide), up_ne _ _ _ (by decide), up_ne _ _ _ (by decide), up_ne _ _ _ (by decide), up_at]
      · have hT3 : TPC (up (up (up (up (up M 28 5 (nI (rtT T n c q).1)) 32 k (nI ((a * 6 + b) * 4 + t))) 33 k (bI (opk P k h))) 31 0 (nI (k + 1))) 31 1 (nI (if opk P k h = true then hrc P k + 1 else hrc P k))) n T := TPC_ne (TPC_ne (TPC_ne (TPC_ne (TPC_up hT) (by decide) (by decide)) (by decide) (by decide)) (by decide) (by decide)) (by decide) (by decide)
        have sg := fun d Q => c_X1_sign (d := d) (Q := Q) (lx := lx) (xs := xs) (p := (rtT T n c q).1) hT3 (by rw [up_ne _ _ _ (by decide), up_ne _ _ _ (by decide), up_ne _ _ _ (by decide), up_ne _ _ _ (by decide), up_at]) hrl
        have sz := pr.1
        generalize up (up (up (up (up M 28 5 (nI (rtT T n c q).1)) 32 k (nI ((a * 6 + b) * 4 + t))) 33 k (bI (opk P k h))) 31 0 (nI (k + 1))) 31 1 (nI (if opk P k h = true then hrc P k + 1 else hrc P k)) = A at *
        by_cases hl : (rtT T n c q).1 < n
        · have e : (chr T n (rtT T n c q).1 = -1) = False := by rw [chr_m1 t4]; exact eq_false (fun z => z hl)
          rw [if_pos hl]
          simp (disch := omega) only [s_90_56, s_90_57, s_90_58, s_90_61, s_90_63, s_90_65, s_90_68, s_90_69, s_90_72, s_90_73, s_90_74, s_90_77, s_90_79, s_90_80, s_90_83, s_90_84, s_90_87, s_90_88, s_90_91, s_90_92, s_90_95, s_90_98, ↓reduceIte, r6 lx xs M hT h5, ap_some, ap_none, i_l0, ad, sg, e]
        · have e : (chr T n (rtT T n c q).1 = -1) = True := by rw [chr_m1 t4]; exact eq_true hl
          rw [if_neg hl]
          simp (disch := omega) only [s_90_56, s_90_57, s_90_58, s_90_61, s_90_63, s_90_65, s_90_68, s_90_69, s_90_72, s_90_73, s_90_74, s_90_77, s_90_79, s_90_80, s_90_83, s_90_84, s_90_87, s_90_88, s_90_91, s_90_92, s_90_95, s_90_98, ↓reduceIte, r6 lx xs M hT h5, ap_some, ap_none, i_l0, ad, sg, e, sz]
    have k7 : ∀ lx xs M p, TPM M n T → M 53 4 = nI c → M 53 11 = nI p → p ≤ n → sk T n p = q → RDi M k P → ∃ A, frQ M A ∧ A 53 12 = nI (k + 1) ∧ RDi A (k + 1) (setP P k a b t h) ∧ A 53 11 = nI (rtT T n c q).1 ∧ sk T n (rtT T n c q).1 = (rtT T n c q).1 ∧ ∀ d Q o3, Go (d + 3) 135 9 [some (.ref 53), some (.int (nI h)), some (.int (nI k)), o3] [] (HP lx xs M) Q = if (rtT T n c q).1 < n then Go (d + 3) 135 56 [some (.ref 53), some (.int (nI h)), some (.int (nI k)), some (.int (nI (T (rtT T n c q).1)))] [] (HP lx xs A) Q else Q (some (.int (nI 1))) (HP lx xs A) := by
      intro lx xs M p hT h4 h5 hp hs hR
      obtain ⟨p', a1, a2, a3⟩ := r7 lx xs M p hT h4 h5 hp hs
      have fq : frQ M (up (up (rdM M (4 * k) p' (some (a, b, t))) 60 (4 * k + 3) (nI h)) 53 12 (nI (k + 1))) := frQ_up (frQ_up frQ_rd (by omega)) (by omega)
      have rd := RDi_set (a := a) (b := b) (t := t) (h := h) (p := p') hR
      have nb := fun d Q => c_X7_nextByte (d := d) (Q := Q) (lx := lx) (xs := xs) (p := p') (frQ_TPM hT fq) (by rw [up_off (by decide), up_ne _ _ _ (by decide), rdM_place]) a1
      rw [a2] at nb
      have id1 := sk_idem (T := T) a1
      rw [a2] at id1
      refine ⟨up (up (up (rdM M (4 * k) p' (some (a, b, t))) 60 (4 * k + 3) (nI h)) 53 12 (nI (k + 1))) 53 11 (nI (rtT T n c q).1), frQ_up fq (by omega), by rw [up_off (by decide), up_at], RDi_up rd, up_at, id1, fun d Q o3 => ?_⟩
      rw [s_135_9]
      by_cases hl : (rtT T n c q).1 < n
      · have bq := t4 _ hl
        have e : chr T n (rtT T n c q).1 = nI (T (rtT T n c q).1) := if_pos hl
        rw [if_pos hl]
        rw [e] at nb
        simp (disch := omega) only [s_135_10, s_135_12, s_135_15, s_135_16, s_135_17, s_135_18, s_135_19, s_135_22, s_135_25, s_135_26_0, s_135_26_1, sb_135_26, s_135_27, s_135_28, s_135_31, s_135_32, s_135_33, s_135_34, s_135_35, s_135_36, s_135_37, s_135_38, s_135_39, s_135_40, s_135_41, s_135_42, s_135_45, s_135_46, s_135_49, s_135_50, s_135_51, s_135_54, s_135_55_0, s_135_55_1, sb_135_55, ↓reduceIte, i_lt, hk24, i_mul, i_add, a3, ap_some, bI_0, Bool.true_eq_false, i_in, i_cl, true_and, nb, i_l0]
      · have e : (chr T n (rtT T n c q).1 < 0) = True := by rw [chr_l0 t4]; exact eq_true hl
        rw [if_neg hl]
        simp (disch := omega) only [s_135_10, s_135_12, s_135_15, s_135_16, s_135_17, s_135_18, s_135_19, s_135_22, s_135_25, s_135_26_0, s_135_26_1, sb_135_26, s_135_27, s_135_28, s_135_31, s_135_32, s_135_33, s_135_34, s_135_35, s_135_36, s_135_37, s_135_38, s_135_39, s_135_40, s_135_41, s_135_42, s_135_45, s_135_46, s_135_49, s_135_50, s_135_51, s_135_54, s_135_55_0, s_135_55_1, sb_135_55, ↓reduceIte, i_lt, hk24, i_mul, i_add, a3, ap_some, bI_0, Bool.true_eq_false, i_in, i_cl, true_and, nb, e]
    generalize (rtT T n c q).1 = q1 at *
    by_cases hl : q1 < n
    · simp only [hl, ↓reduceIte] at k6 k7
      have bq := t4 _ hl
      by_cases h23 : k + 1 = 24
      · -- a 25th
        have hk23 : k = 23 := by omega
        subst hk23
        left
        refine ⟨q1, hrl, fun lx xs M hT h5 hR => ?_, fun lx xs M p hT h4 h5 hp hs hR => ?_⟩
        · obtain ⟨A, b1, b2, b3, b4, b5⟩ := k6 lx xs M hT h5 hR
          refine ⟨A, b1, fun d Q o4 => ?_⟩
          have fa := fun d Q => c_X1_fault (d := d) (Q := Q) (lx := lx) (xs := xs) b3
          rw [b5]
          simp (disch := omega) only [s_90_99, s_90_102, s_90_105, s_90_106, s_90_109, s_90_13, s_90_14, s_90_16, ↓reduceIte, i_add, Nat.reduceAdd, i_lt, Nat.lt_irrefl, fa, ap_some]
        · obtain ⟨A, b1, b2, b3, b4, b5, b6⟩ := k7 lx xs M p hT h4 h5 hp hs hR
          refine ⟨A, q1, b1, b4, hrl, b5, fun d Q o3 => ?_⟩
          rw [b6]
          by_cases e1 : T q1 = 44
          · simp (disch := omega) only [s_135_56, s_135_57, s_135_59, s_135_62, s_135_63, s_135_65, s_135_68, s_135_69, s_135_71, s_135_74, s_135_75_0, s_135_75_1, sb_135_75, ↓reduceIte, i_eq, e1]
          · by_cases e2 : T q1 = 59
            · simp (disch := omega) only [s_135_56, s_135_57, s_135_59, s_135_62, s_135_63, s_135_65, s_135_68, s_135_69, s_135_71, s_135_74, s_135_75_0, s_135_75_1, sb_135_75, ↓reduceIte, i_eq, e1, e2, show ((59 : Nat) = 44) = False by decide]
            · simp (disch := omega) only [s_135_56, s_135_57, s_135_59, s_135_62, s_135_63, s_135_65, s_135_68, s_135_69, s_135_71, s_135_74, s_135_75_0, s_135_75_1, sb_135_75, ↓reduceIte, i_eq, e1, e2]
      · have hk1 : k + 1 < 24 := by omega
        have k0 : (k + 1 = 0) = False := eq_false (by omega)
        have k23 : (k = 23) = False := eq_false (by omega)
        have n1 := nx_le (T := T) hl
        by_cases e2 : T q1 = 59
        · -- a new hour
          have hh2 : hok (setP P k a b t h) (k + 1) (h + 1) := by
            refine Or.inr ⟨by omega, Or.inr ?_⟩
            rw [Nat.add_sub_cancel, setP_at.2.2.2]
          have ho2 : opk (setP P k a b t h) (k + 1) (h + 1) = true := by
            unfold opk
            rw [Nat.add_sub_cancel, setP_at.2.2.2]
            exact decide_eq_true (by omega)
          have c6 : ∀ lx xs A, TPC A n T → A 28 5 = nI q1 → ∀ d Q o3 o4, Go (d + 4) 90 99 [some (.ref 28), some (.int (nI c)), some (.int (nI k)), o3, o4] [] (HP lx xs A) Q = Go (d + 4) 90 56 [some (.ref 28), some (.int (nI c)), some (.int (nI (k + 1))), some (.int (bI true)), o4] [] (HP lx xs (up A 28 5 (nI (nx T n q1)))) Q := by
            intro lx xs A hT h5 d Q o3 o4
            have ta := fun d Q => c_X1_takes (d := d) (Q := Q) (lx := lx) (xs := xs) (c := 59) hT h5 hrl (by decide)
            simp only [hl, e2, and_self, ↓reduceIte] at ta
            simp (disch := omega) only [s_90_99, s_90_102, s_90_13, s_90_14, s_90_16, s_90_19, s_90_20, s_90_23, s_90_24, s_90_26, s_90_29, s_90_32, s_90_33, s_90_36, s_90_37, s_90_38, s_90_39, s_90_42, s_90_43, s_90_45, s_90_48, s_90_51, s_90_52, s_90_55, ↓reduceIte, i_add, i_lt, hk1, i_e0, k0, ta, ap_some, n1_0]
            rfl
          have c7 : ∀ lx xs A, A 53 11 = nI q1 → ∀ d Q, Go (d + 3) 135 56 [some (.ref 53), some (.int (nI h)), some (.int (nI k)), some (.int (nI (T q1)))] [] (HP lx xs A) Q = Go (d + 3) 135 9 [some (.ref 53), some (.int (nI (h + 1))), some (.int (nI (k + 1))), some (.int (nI (T q1)))] [] (HP lx xs (up A 53 11 (nI (q1 + 1)))) Q := by
            intro lx xs A h5 d Q
            rw [e2]
            simp (disch := omega) only [s_135_56, s_135_57, s_135_59, s_135_62, s_135_63, s_135_65, s_135_68, s_135_69, s_135_71, s_135_74, s_135_75_0, s_135_75_1, sb_135_75, s_135_76, s_135_77, s_135_78, s_135_80, s_135_83, s_135_84, s_135_87, s_135_88, s_135_89, s_135_90, s_135_91, s_135_92, s_135_95, s_135_96, s_135_97, s_135_100, s_135_103, ↓reduceIte, i_eq, show ((59 : Nat) = 44) = False by decide, k23, h5, i_add]
          rcases ih (m - 1) (by omega) (k + 1) (nx T n q1) (h + 1) (setP P k a b t h) (by omega) n1 hP1 hh2 with ⟨f, f1, f6, f7⟩ | ⟨K, P1, g1, g2, g3, g6, g7⟩
          · left
            refine ⟨f, f1, fun lx xs M hT h5 hR => ?_, fun lx xs M p hT h4 h5 hp hs hR => ?_⟩
            · obtain ⟨A, b1, b2, b3, b4, b5⟩ := k6 lx xs M hT h5 hR
              obtain ⟨M1, u1, u2⟩ := f6 lx xs (up A 28 5 (nI (nx T n q1))) (TPC_up b2) up_at ⟨by rw [up_ne _ _ _ (by decide)]; exact b4.1, by rw [up_ne _ _ _ (by decide)]; exact b4.2.1, fun i hi => by rw [up_ne _ _ _ (by decide)]; exact b4.2.2.1 i hi, fun i hi => by rw [up_ne _ _ _ (by decide)]; exact b4.2.2.2 i hi⟩
              refine ⟨M1, frR_tr (frR_up b1 (by omega)) u1, fun d Q o4 => ?_⟩
              rw [ho2] at u2
              rw [b5, c6 lx xs A b2 b3, u2]
            · obtain ⟨A, b1, b2, b3, b4, b5, b6⟩ := k7 lx xs M p hT h4 h5 hp hs hR
              obtain ⟨M1, p', u1, u2, u3, u4, u5⟩ := f7 lx xs (up A 53 11 (nI (q1 + 1))) (q1 + 1) (TPM_up (frQ_TPM hT b1) (by decide)) (by rw [up_off (by decide), b1.2 4 (by decide) (by decide)]; exact h4) up_at (by omega) rfl (RDi_up b3)
              exact ⟨M1, p', frQ_tr (frQ_up b1 (by omega)) u1, u2, u3, u4, fun d Q o3 => by rw [b6, c7 lx xs A b4, u5]⟩
          · right
            refine ⟨K, P1, g1, g2, g3, fun lx xs M hT h5 hR => ?_, fun lx xs M p hT h4 h5 hp hs hR => ?_⟩
            · obtain ⟨A, b1, b2, b3, b4, b5⟩ := k6 lx xs M hT h5 hR
              obtain ⟨M1, u1, u3, u2⟩ := g6 lx xs (up A 28 5 (nI (nx T n q1))) (TPC_up b2) up_at ⟨by rw [up_ne _ _ _ (by decide)]; exact b4.1, by rw [up_ne _ _ _ (by decide)]; exact b4.2.1, fun i hi => by rw [up_ne _ _ _ (by decide)]; exact b4.2.2.1 i hi, fun i hi => by rw [up_ne _ _ _ (by decide)]; exact b4.2.2.2 i hi⟩
              refine ⟨M1, frR_tr (frR_up b1 (by omega)) u1, u3, fun d Q o4 => ?_⟩
              rw [ho2] at u2
              rw [b5, c6 lx xs A b2 b3, u2]
            · obtain ⟨A, b1, b2, b3, b4, b5, b6⟩ := k7 lx xs M p hT h4 h5 hp hs hR
              obtain ⟨M1, u1, u2, u3, u5⟩ := g7 lx xs (up A 53 11 (nI (q1 + 1))) (q1 + 1) (TPM_up (frQ_TPM hT b1) (by decide)) (by rw [up_off (by decide), b1.2 4 (by decide) (by decide)]; exact h4) up_at (by omega) rfl (RDi_up b3)
              exact ⟨M1, frQ_tr (frQ_up b1 (by omega)) u1, u2, u3, fun d Q o3 => by rw [b6, c7 lx xs A b4, u5]⟩
        · by_cases e1 : T q1 = 44
          · -- the same hour
            have hh2 : hok (setP P k a b t h) (k + 1) h := by
              refine Or.inr ⟨by omega, Or.inl ?_⟩
              rw [Nat.add_sub_cancel, setP_at.2.2.2]
            have ho2 : opk (setP P k a b t h) (k + 1) h = false := by
              unfold opk
              rw [Nat.add_sub_cancel, setP_at.2.2.2]
              exact decide_eq_false (by omega)
            have c6 : ∀ lx xs A, TPC A n T → A 28 5 = nI q1 → ∀ d Q o3 o4, Go (d + 4) 90 99 [some (.ref 28), some (.int (nI c)), some (.int (nI k)), o3, o4] [] (HP lx xs A) Q = Go (d + 4) 90 56 [some (.ref 28), some (.int (nI c)), some (.int (nI (k + 1))), some (.int (bI false)), o4] [] (HP lx xs (up A 28 5 (nI (nx T n q1)))) Q := by
              intro lx xs A hT h5 d Q o3 o4
              have ta := fun d Q => c_X1_takes (d := d) (Q := Q) (lx := lx) (xs := xs) (c := 59) hT h5 hrl (by decide)
              have tb := fun d Q => c_X1_takes (d := d) (Q := Q) (lx := lx) (xs := xs) (c := 44) hT h5 hrl (by decide)
              simp only [e2, and_false, ↓reduceIte] at ta
              simp only [hl, e1, and_self, ↓reduceIte] at tb
              simp (disch := omega) only [s_90_99, s_90_102, s_90_13, s_90_14, s_90_16, s_90_19, s_90_20, s_90_23, s_90_24, s_90_26, s_90_29, s_90_32, s_90_33, s_90_36, s_90_37, s_90_38, s_90_39, s_90_42, s_90_43, s_90_45, s_90_48, s_90_51, s_90_52, s_90_55, ↓reduceIte, i_add, i_lt, hk1, i_e0, k0, ta, tb, ap_some, n0_0, n1_0]
              rfl
            have c7 : ∀ lx xs A, A 53 11 = nI q1 → ∀ d Q, Go (d + 3) 135 56 [some (.ref 53), some (.int (nI h)), some (.int (nI k)), some (.int (nI (T q1)))] [] (HP lx xs A) Q = Go (d + 3) 135 9 [some (.ref 53), some (.int (nI h)), some (.int (nI (k + 1))), some (.int (nI (T q1)))] [] (HP lx xs (up A 53 11 (nI (q1 + 1)))) Q := by
              intro lx xs A h5 d Q
              rw [e1]
              simp (disch := omega) only [s_135_56, s_135_57, s_135_59, s_135_62, s_135_63, s_135_65, s_135_68, s_135_69, s_135_71, s_135_74, s_135_75_0, s_135_75_1, sb_135_75, s_135_76, s_135_77, s_135_78, s_135_80, s_135_83, s_135_84, s_135_87, s_135_88, s_135_89, s_135_90, s_135_91, s_135_92, s_135_95, s_135_96, s_135_97, s_135_100, s_135_103, ↓reduceIte, i_eq, show ((44 : Nat) = 59) = False by decide, k23, h5, i_add, Nat.add_zero]
            rcases ih (m - 1) (by omega) (k + 1) (nx T n q1) h (setP P k a b t h) (by omega) n1 hP1 hh2 with ⟨f, f1, f6, f7⟩ | ⟨K, P1, g1, g2, g3, g6, g7⟩
            · left
              refine ⟨f, f1, fun lx xs M hT h5 hR => ?_, fun lx xs M p hT h4 h5 hp hs hR => ?_⟩
              · obtain ⟨A, b1, b2, b3, b4, b5⟩ := k6 lx xs M hT h5 hR
                obtain ⟨M1, u1, u2⟩ := f6 lx xs (up A 28 5 (nI (nx T n q1))) (TPC_up b2) up_at ⟨by rw [up_ne _ _ _ (by decide)]; exact b4.1, by rw [up_ne _ _ _ (by decide)]; exact b4.2.1, fun i hi => by rw [up_ne _ _ _ (by decide)]; exact b4.2.2.1 i hi, fun i hi => by rw [up_ne _ _ _ (by decide)]; exact b4.2.2.2 i hi⟩
                refine ⟨M1, frR_tr (frR_up b1 (by omega)) u1, fun d Q o4 => ?_⟩
                rw [ho2] at u2
                rw [b5, c6 lx xs A b2 b3, u2]
              · obtain ⟨A, b1, b2, b3, b4, b5, b6⟩ := k7 lx xs M p hT h4 h5 hp hs hR
                obtain ⟨M1, p', u1, u2, u3, u4, u5⟩ := f7 lx xs (up A 53 11 (nI (q1 + 1))) (q1 + 1) (TPM_up (frQ_TPM hT b1) (by decide)) (by rw [up_off (by decide), b1.2 4 (by decide) (by decide)]; exact h4) up_at (by omega) rfl (RDi_up b3)
                exact ⟨M1, p', frQ_tr (frQ_up b1 (by omega)) u1, u2, u3, u4, fun d Q o3 => by rw [b6, c7 lx xs A b4, u5]⟩
            · right
              refine ⟨K, P1, g1, g2, g3, fun lx xs M hT h5 hR => ?_, fun lx xs M p hT h4 h5 hp hs hR => ?_⟩
              · obtain ⟨A, b1, b2, b3, b4, b5⟩ := k6 lx xs M hT h5 hR
                obtain ⟨M1, u1, u3, u2⟩ := g6 lx xs (up A 28 5 (nI (nx T n q1))) (TPC_up b2) up_at ⟨by rw [up_ne _ _ _ (by decide)]; exact b4.1, by rw [up_ne _ _ _ (by decide)]; exact b4.2.1, fun i hi => by rw [up_ne _ _ _ (by decide)]; exact b4.2.2.1 i hi, fun i hi => by rw [up_ne _ _ _ (by decide)]; exact b4.2.2.2 i hi⟩
                refine ⟨M1, frR_tr (frR_up b1 (by omega)) u1, u3, fun d Q o4 => ?_⟩
                rw [ho2] at u2
                rw [b5, c6 lx xs A b2 b3, u2]
              · obtain ⟨A, b1, b2, b3, b4, b5, b6⟩ := k7 lx xs M p hT h4 h5 hp hs hR
                obtain ⟨M1, u1, u2, u3, u5⟩ := g7 lx xs (up A 53 11 (nI (q1 + 1))) (q1 + 1) (TPM_up (frQ_TPM hT b1) (by decide)) (by rw [up_off (by decide), b1.2 4 (by decide) (by decide)]; exact h4) up_at (by omega) rfl (RDi_up b3)
                exact ⟨M1, frQ_tr (frQ_up b1 (by omega)) u1, u2, u3, fun d Q o3 => by rw [b6, c7 lx xs A b4, u5]⟩
          · -- something else
            left
            refine ⟨q1, hrl, fun lx xs M hT h5 hR => ?_, fun lx xs M p hT h4 h5 hp hs hR => ?_⟩
            · obtain ⟨A, b1, b2, b3, b4, b5⟩ := k6 lx xs M hT h5 hR
              refine ⟨A, b1, fun d Q o4 => ?_⟩
              have fa := fun d Q => c_X1_fault (d := d) (Q := Q) (lx := lx) (xs := xs) b3
              have ta := fun d Q => c_X1_takes (d := d) (Q := Q) (lx := lx) (xs := xs) (c := 59) b2 b3 hrl (by decide)
              have tb := fun d Q => c_X1_takes (d := d) (Q := Q) (lx := lx) (xs := xs) (c := 44) b2 b3 hrl (by decide)
              simp only [e2, and_false, ↓reduceIte] at ta
              simp only [e1, and_false, ↓reduceIte] at tb
              rw [b5]
              simp (disch := omega) only [s_90_99, s_90_102, s_90_13, s_90_14, s_90_16, s_90_19, s_90_20, s_90_23, s_90_24, s_90_26, s_90_29, s_90_32, s_90_33, s_90_36, s_90_37, s_90_38, s_90_39, s_90_42, s_90_43, s_90_45, s_90_48, s_90_51, s_90_52, s_90_55, ↓reduceIte, i_add, i_lt, hk1, i_e0, k0, ta, tb, ap_some, n0_0, fa]
            · obtain ⟨A, b1, b2, b3, b4, b5, b6⟩ := k7 lx xs M p hT h4 h5 hp hs hR
              refine ⟨A, q1, b1, b4, hrl, b5, fun d Q o3 => ?_⟩
              rw [b6]
              simp (disch := omega) only [s_135_56, s_135_57, s_135_59, s_135_62, s_135_63, s_135_65, s_135_68, s_135_69, s_135_71, s_135_74, s_135_75_0, s_135_75_1, sb_135_75, ↓reduceIte, i_eq, e1, e2]
    · simp only [hl, ↓reduceIte] at k6 k7
      right
      refine ⟨k + 1, setP P k a b t h, by omega, by omega, hP1, fun lx xs M hT h5 hR => ?_, fun lx xs M p hT h4 h5 hp hs hR => ?_⟩
      · obtain ⟨A, b1, b2, b3, b4, b5⟩ := k6 lx xs M hT h5 hR
        exact ⟨A, b1, b4, b5⟩
      · obtain ⟨A, b1, b2, b3, b4, b5, b6⟩ := k7 lx xs M p hT h4 h5 hp hs hR
        exact ⟨A, b1, b2, b3, b6⟩
