/-! all rows, one behind the other -/
def rml (g : Nat → Nat) : List Nat → Nat
  | [] => 0
  | c :: l => (if g c = 9 then 2 ^ c else 0) ||| rml g l
theorem rml_app {g : Nat → Nat} : ∀ a b, rml g (a ++ b) = rml g a ||| rml g b := by
  intro a b
  induction a with
  | nil => rw [List.nil_append, rml, Nat.zero_or]
  | cons c a ih => rw [List.cons_append, rml, rml, ih, Nat.or_assoc]
theorem rml_bit {g : Nat → Nat} {i : Nat} : ∀ l, (rml g l).testBit i = true ↔ i ∈ l ∧ g i = 9 := by
  intro l
  induction l with
  | nil => rw [rml, Nat.zero_testBit]; simp
  | cons c l ih =>
    rw [rml, Nat.testBit_or, Bool.or_eq_true, ih, List.mem_cons]
    by_cases e : i = c
    · subst e
      by_cases h : g i = 9
      · rw [if_pos h, Nat.testBit_two_pow_self]; simp [h]
      · rw [if_neg h, Nat.zero_testBit]; simp [h]
    · have e2 : ((if g c = 9 then 2 ^ c else 0 : Nat)).testBit i = false := by
        split
        · exact Nat.testBit_two_pow_of_ne (fun q => e q.symm)
        · exact Nat.zero_testBit _
      rw [e2]
      simp [e]
abbrev acT : Type := Nat × Nat × (Nat → Nat)
def sta (src : Nat → Nat) (wl : List Nat) (a : acT) (g : Nat → Nat) : acT := if vld src wl g = true then (a.1 + 1, a.2.1 ||| rml g wl, if a.1 = 0 then g else a.2.2) else a
def ACC (M : Nat → Nat → Int32) (S : Nat → Nat → Nat) (t : Nat) (a : acT) : Prop := M 53 26 = nI a.1 ∧ M 53 27 = nI a.2.1 ∧ (0 < a.1 → ∀ k c, (wlS S t)[k]? = some c → M 70 k = nI (ix S t (a.2.2 c)))
def frE (M M1 : Nat → Nat → Int32) : Prop := (∀ c, c ≠ 53 → c ≠ 68 → c ≠ 70 → M1 c = M c) ∧ (∀ j, j ≠ 26 → j ≠ 27 → M1 53 j = M 53 j)
theorem frE_rf (M : Nat → Nat → Int32) : frE M M := ⟨fun _ _ _ _ => rfl, fun _ _ _ => rfl⟩
theorem frE_tr {M M1 M2 : Nat → Nat → Int32} (a : frE M M1) (b : frE M1 M2) : frE M M2 := ⟨fun c h1 h2 h3 => (b.1 c h1 h2 h3).trans (a.1 c h1 h2 h3), fun j h1 h2 => (b.2 j h1 h2).trans (a.2 j h1 h2)⟩
section EN
variable {d : Nat} {Q : Option Value → ex_H → Prop} {lx : Nat} {xs : Nat → Int32} {M M1 : Nat → Nat → Int32} {S : Nat → Nat → Nat} {t c p k : Nat} {g h : Nat → Nat}
theorem frE_RepM (hC : RepM M S) (hf : frE M M1) : RepM M1 S := RepM_eq hC (fun j h1 h2 => hf.2 j (by omega) (by omega)) (fun c h1 h2 => hf.1 c (by omega) (by omega) (by omega))
theorem frE_WHO (hw : WHO M S t) (hf : frE M M1) : WHO M1 S t := ⟨by rw [hf.2 24 (by decide) (by decide)]; exact hw.1, fun k c h => by rw [hf.1 69 (by decide) (by decide) (by decide)]; exact hw.2 k c h⟩
theorem ROW_congr (hr : ROW M S t h) (hg : ∀ c, c ∈ wlS S t → h c = g c) : ROW M S t g := fun k c hk => by rw [← hg c (ix_who hk).1]; exact hr k c hk
theorem V_ix {i u : Nat} (hu : (wlS S t ++ [9])[i]? = some u) : ix S t u = i ∧ (i < (wlS S t).length → u ∈ wlS S t) ∧ (i = (wlS S t).length → u = 9) := by
  by_cases hi : i < (wlS S t).length
  · rw [List.getElem?_append_left hi] at hu
    exact ⟨(ix_who hu).2, fun _ => (ix_who hu).1, fun q => by omega⟩
  · rw [List.getElem?_append_right (by omega)] at hu
    have h1 := (List.getElem?_eq_some_iff.mp hu).1
    have h2 : [9].length = 1 := rfl
    have e : i = (wlS S t).length := by omega
    rw [e, Nat.sub_self] at hu
    cases hu
    exact ⟨by rw [ix_9, e], fun q => by omega, fun _ => rfl⟩
/-- nextRow: places from j on hold nobody, and become the first -/
theorem ll_nextRow (hw : M 53 24 = nI (wlS S t).length) : ∀ n j, j + n = (wlS S t).length → (∀ k, j ≤ k → k < (wlS S t).length → M 68 k = nI (wlS S t).length) → ∃ M1, (∀ c, c ≠ 68 → M1 c = M c) ∧ (∀ k, k < j → M1 68 k = M 68 k) ∧ (∀ k, j ≤ k → k < (wlS S t).length → M1 68 k = nI 0) ∧ ∀ d Q, Go d 153 7 [some (.ref 53), some (.int (nI (wlS S t).length + -1))] [] (HP lx xs M) Q = Go d 153 7 [some (.ref 53), some (.int (nI j + -1))] [] (HP lx xs M1) Q := by
  have hl := wlS_len S t
  intro n
  induction n with
  | zero =>
    intro j hj _
    have e : j = (wlS S t).length := by omega
    subst e
    exact ⟨M, fun _ _ => rfl, fun _ _ => rfl, fun k h1 h2 => by omega, fun d Q => rfl⟩
  | succ n ih =>
    intro j hj h
    obtain ⟨M1, r1, r2, r3, r4⟩ := ih (j + 1) (by omega) (fun k h1 h2 => h k (by omega) h2)
    have e68 : M1 68 j = nI (wlS S t).length := by rw [r2 j (by omega)]; exact h j (by omega) (by omega)
    have e24 : M1 53 24 = nI (wlS S t).length := by rw [r1 53 (by decide)]; exact hw
    have hgt : (wlS S t).length < (wlS S t).length + 1 := by omega
    refine ⟨up M1 68 j (nI 0), fun c hc => (up_ne _ _ _ hc).trans (r1 c hc), fun k hk => by rw [up_off (by omega)]; exact r2 k (by omega), fun k h1 h2 => ?_, fun d Q => ?_⟩
    · by_cases e : k = j
      · subst e; exact up_at
      · rw [up_off e]; exact r3 k (by omega) h2
    · rw [r4, pre_s, s_153_7]
      simp (disch := omega) only [s_153_8, s_153_11, s_153_12, s_153_15, s_153_16, s_153_17, s_153_18, s_153_19, s_153_20, s_153_21, s_153_22, s_153_25, s_153_26, s_153_27, s_153_28, s_153_31, s_153_34, s_153_35_0, s_153_35_1, sb_153_35, s_153_36, s_153_37, s_153_40, s_153_41, s_153_42, s_153_43, s_153_46, ↓reduceIte, i_l0, i_in, i_cl, true_and, e68, i_add, up_at, up_ne, e24, i_lt, hgt, up_up]
theorem c_nextRow_go (hw : M 53 24 = nI (wlS S t).length) {j v : Nat} (hj : j < (wlS S t).length) (hv : v < (wlS S t).length) (h68 : M 68 j = nI v) (h : ∀ k, j < k → k < (wlS S t).length → M 68 k = nI (wlS S t).length) : ∃ M1, (∀ c, c ≠ 68 → M1 c = M c) ∧ (∀ k, k < j → M1 68 k = M 68 k) ∧ M1 68 j = nI (v + 1) ∧ (∀ k, j < k → k < (wlS S t).length → M1 68 k = nI 0) ∧ ∀ d Q, Go d 153 0 [some (.ref 53), none] [] (HP lx xs M) Q = Q (some (.int (nI 1))) (HP lx xs M1) := by
  have hl := wlS_len S t
  obtain ⟨M1, r1, r2, r3, r4⟩ := ll_nextRow (lx := lx) (xs := xs) hw ((wlS S t).length - (j + 1)) (j + 1) (by omega) (fun k h1 h2 => h k (by omega) h2)
  have e68 : M1 68 j = nI v := by rw [r2 j (by omega)]; exact h68
  have e24 : M1 53 24 = nI (wlS S t).length := by rw [r1 53 (by decide)]; exact hw
  have hle : ¬ (wlS S t).length < v + 1 := by omega
  refine ⟨up M1 68 j (nI (v + 1)), fun c hc => (up_ne _ _ _ hc).trans (r1 c hc), fun k hk => by rw [up_off (by omega)]; exact r2 k (by omega), up_at, fun k h1 h2 => by rw [up_off (by omega)]; exact r3 k (by omega) h2, fun d Q => ?_⟩
  have st : Go d 153 0 [some (.ref 53), none] [] (HP lx xs M) Q = Go d 153 7 [some (.ref 53), some (.int (nI (wlS S t).length + -1))] [] (HP lx xs M) Q := by
    simp only [s_153_0, s_153_1, s_153_4, s_153_5, s_153_6, hw, sub_1]
  rw [st, r4, pre_s, s_153_7]
  simp (disch := omega) only [s_153_8, s_153_11, s_153_12, s_153_15, s_153_16, s_153_17, s_153_18, s_153_19, s_153_20, s_153_21, s_153_22, s_153_25, s_153_26, s_153_27, s_153_28, s_153_31, s_153_34, s_153_35_0, s_153_35_1, sb_153_35, s_153_36, s_153_37, s_153_40, s_153_41, s_153_42, s_153_43, s_153_46, ↓reduceIte, i_l0, i_in, i_cl, true_and, e68, i_add, up_at, up_ne, e24, i_lt, hle]
theorem c_nextRow_end (hw : M 53 24 = nI (wlS S t).length) (h : ∀ k, k < (wlS S t).length → M 68 k = nI (wlS S t).length) : ∃ M1, (∀ c, c ≠ 68 → M1 c = M c) ∧ ∀ d Q, Go d 153 0 [some (.ref 53), none] [] (HP lx xs M) Q = Q (some (.int (nI 0))) (HP lx xs M1) := by
  obtain ⟨M1, r1, r2, r3, r4⟩ := ll_nextRow (lx := lx) (xs := xs) hw (wlS S t).length 0 (by omega) (fun k _ h2 => h k h2)
  refine ⟨M1, r1, fun d Q => ?_⟩
  have st : Go d 153 0 [some (.ref 53), none] [] (HP lx xs M) Q = Go d 153 7 [some (.ref 53), some (.int (nI (wlS S t).length + -1))] [] (HP lx xs M) Q := by
    simp only [s_153_0, s_153_1, s_153_4, s_153_5, s_153_6, hw, sub_1]
  rw [st, r4, s_153_7]
  simp only [s_153_8, s_153_11, s_153_12, s_153_15, s_153_16, s_153_17, s_153_18, s_153_19, s_153_20, s_153_21, s_153_22, s_153_25, s_153_26, s_153_27, s_153_28, s_153_31, s_153_34, s_153_35_0, s_153_35_1, sb_153_35, s_153_36, s_153_37, s_153_40, s_153_41, s_153_42, s_153_43, s_153_46, s_153_49, s_153_50_0, s_153_50_1, sb_153_50, ↓reduceIte, pre_0]
/-- a way is kept: the first as a row, the first mouth in the set -/
theorem ll_keep (hw : WHO M S t) (hr : ROW M S t g) (hg : cls S t g) {w f : Nat} {F : Nat → Nat} (hw9 : w < 1000000) (hf : f < 64) : ∀ n k M', k + n = (wlS S t).length → (∀ c, c ≠ 53 → c ≠ 70 → M' c = M c) → (∀ j, j ≠ 27 → M' 53 j = M 53 j) → M 53 26 = nI w → M' 53 27 = nI (f ||| rml g ((wlS S t).take k)) → (0 < w → ∀ k c, (wlS S t)[k]? = some c → M' 70 k = nI (ix S t (F c))) → (w = 0 → ∀ j c, j < k → (wlS S t)[j]? = some c → M' 70 j = nI (ix S t (g c))) → ∃ M1, (∀ c, c ≠ 53 → c ≠ 70 → M1 c = M c) ∧ (∀ j, j ≠ 27 → M1 53 j = M 53 j) ∧ M1 53 27 = nI (f ||| rml g (wlS S t)) ∧ (0 < w → ∀ k c, (wlS S t)[k]? = some c → M1 70 k = nI (ix S t (F c))) ∧ (w = 0 → ∀ j c, (wlS S t)[j]? = some c → M1 70 j = nI (ix S t (g c))) ∧ ∀ d Q o2, Go d 154 103 [some (.ref 53), some (.int (nI t)), o2, some (.int (nI k))] [] (HP lx xs M') Q = Go d 154 179 [some (.ref 53), some (.int (nI t)), o2, some (.int (nI (wlS S t).length))] [] (HP lx xs M1) Q := by
  have hl := wlS_len S t
  have rb : ∀ l : List Nat, (∀ c, c ∈ l → c < 6) → rml g l < 64 := fun l hl6 => by
    apply Nat.lt_pow_two_of_testBit (n := 6)
    intro i hi
    rw [← Bool.not_eq_true]
    intro q
    have := hl6 i ((rml_bit l).mp q).1
    omega
  intro n
  induction n with
  | zero =>
    intro k M' hk f1 f2 hW6 h27 hF h0
    have e : k = (wlS S t).length := by omega
    subst e
    rw [List.take_length] at h27
    refine ⟨M', f1, f2, h27, hF, fun q j c hj => h0 q j c (List.getElem?_eq_some_iff.mp hj).1 hj, fun d Q o2 => ?_⟩
    have e24 : M' 53 24 = nI (wlS S t).length := by rw [f2 24 (by decide)]; exact hw.1
    rw [s_154_103]
    simp (disch := omega) only [s_154_104, s_154_105, s_154_108, ↓reduceIte, e24, i_lt, Nat.lt_irrefl]
  | succ n ih =>
    intro k M' hk f1 f2 hW6 h27 hF h0
    have hk2 : k < (wlS S t).length := by omega
    have e24 : M' 53 24 = nI (wlS S t).length := by rw [f2 24 (by decide)]; exact hw.1
    have e26 : M' 53 26 = nI w := by rw [f2 26 (by decide)]; exact hW6
    obtain ⟨c, hck⟩ : ∃ c, (wlS S t)[k]? = some c := ⟨_, List.getElem?_eq_getElem hk2⟩
    have hcm := (ix_who hck).1
    have hc6 := (wlK_mem.mp hcm).1
    have hgc := hg c hcm
    have hle := ix_le hgc
    have e68 : M' 68 k = nI (ix S t (g c)) := by rw [f1 68 (by decide) (by decide)]; exact hr k c hck
    have e69 : M' 69 k = nI c := by rw [f1 69 (by decide) (by decide)]; exact hw.2 k c hck
    have hrt := rb ((wlS S t).take k) (fun c hc => (wlK_mem.mp (List.take_sublist _ _ |>.subset hc)).1)
    have rt : rml g ((wlS S t).take (k + 1)) = rml g ((wlS S t).take k) ||| (if g c = 9 then 2 ^ c else 0) := by
      rw [take_s hck, rml_app, rml, rml, Nat.or_zero]
    -- behind this turn
    have nxt : ∀ N, (∀ c, c ≠ 53 → c ≠ 70 → N c = M' c) → (∀ j, j ≠ 27 → N 53 j = M' 53 j) → N 53 27 = nI (f ||| rml g ((wlS S t).take (k + 1))) → (0 < w → N 70 = M' 70) → (w = 0 → N 70 k = nI (ix S t (g c)) ∧ ∀ j, j ≠ k → N 70 j = M' 70 j) → ∃ M1, (∀ c, c ≠ 53 → c ≠ 70 → M1 c = M c) ∧ (∀ j, j ≠ 27 → M1 53 j = M 53 j) ∧ M1 53 27 = nI (f ||| rml g (wlS S t)) ∧ (0 < w → ∀ k c, (wlS S t)[k]? = some c → M1 70 k = nI (ix S t (F c))) ∧ (w = 0 → ∀ j c, (wlS S t)[j]? = some c → M1 70 j = nI (ix S t (g c))) ∧ ∀ d Q o2, Go d 154 103 [some (.ref 53), some (.int (nI t)), o2, some (.int (nI (k + 1)))] [] (HP lx xs N) Q = Go d 154 179 [some (.ref 53), some (.int (nI t)), o2, some (.int (nI (wlS S t).length))] [] (HP lx xs M1) Q := by
      intro N n1 n2 n3 n4 n5
      refine ih (k + 1) N (by omega) (fun c h1 h2 => (n1 c h1 h2).trans (f1 c h1 h2)) (fun j hj => (n2 j hj).trans (f2 j hj)) hW6 n3 (fun q k c hk => by rw [n4 q]; exact hF q k c hk) (fun q j c2 hj hjc => ?_)
      by_cases e : j = k
      · subst e
        rw [hck] at hjc
        cases hjc
        exact (n5 q).1
      · rw [(n5 q).2 j e]
        exact h0 q j c2 (by omega) hjc
    by_cases h9 : g c = 9
    · have e68' : M' 68 k = nI (wlS S t).length := by rw [e68, h9, ix_9]
      rw [if_pos h9] at rt
      have h2c : 2 ^ c < 64 := Nat.pow_lt_pow_right (by decide) hc6
      by_cases hw0 : w = 0
      · obtain ⟨M1, r1, r2, r3, r4, r5, r6⟩ := nxt (up (up M' 70 k (nI (wlS S t).length)) 53 27 (nI (f ||| rml g ((wlS S t).take k) ||| 2 ^ c))) (fun c h1 h2 => by rw [up_ne _ _ _ h1, up_ne _ _ _ h2]) (fun j hj => by rw [up_off hj, up_ne _ _ _ (by decide)]) (by rw [up_at, rt, Nat.or_assoc]) (fun q => by omega) (fun _ => ⟨by rw [up_ne _ _ _ (by decide), up_at, h9, ix_9], fun j hj => by rw [up_ne _ _ _ (by decide), up_off hj]⟩)
        refine ⟨M1, r1, r2, r3, r4, r5, fun d Q o2 => ?_⟩
        rw [s_154_103]
        simp (disch := omega) only [s_154_104, s_154_105, s_154_108, s_154_111, s_154_112, s_154_115, s_154_116, s_154_117, s_154_120, s_154_123, s_154_124, s_154_127, s_154_128, s_154_129, s_154_132, s_154_133, s_154_136, s_154_137, s_154_138, s_154_139, s_154_140, s_154_141, s_154_144, s_154_145, s_154_148, s_154_149, s_154_150, s_154_151, s_154_154, s_154_157, s_154_158, s_154_159, s_154_162, s_154_163, s_154_164, s_154_165, s_154_168, s_154_169, s_154_170, s_154_173, s_154_176, ↓reduceIte, e24, i_lt, hk2, e26, i_e0, hw0, i_in, i_cl, true_and, e68', up_ne, h27, e69, i_1s, i_or, i_add]
        exact r6 d Q o2
      · obtain ⟨M1, r1, r2, r3, r4, r5, r6⟩ := nxt (up M' 53 27 (nI (f ||| rml g ((wlS S t).take k) ||| 2 ^ c))) (fun c h1 h2 => by rw [up_ne _ _ _ h1]) (fun j hj => by rw [up_off hj]) (by rw [up_at, rt, Nat.or_assoc]) (fun q => by rw [up_ne _ _ _ (by decide)]) (fun q => absurd q hw0)
        refine ⟨M1, r1, r2, r3, r4, r5, fun d Q o2 => ?_⟩
        rw [s_154_103]
        simp (disch := omega) only [s_154_104, s_154_105, s_154_108, s_154_111, s_154_112, s_154_115, s_154_116, s_154_117, s_154_120, s_154_123, s_154_124, s_154_127, s_154_128, s_154_129, s_154_132, s_154_133, s_154_136, s_154_137, s_154_138, ↓reduceIte, e24, i_lt, hk2, e26, i_e0, hw0, i_in, i_cl, true_and]
        rw [up_same rfl]
        simp (disch := omega) only [s_154_139, s_154_140, s_154_141, s_154_144, s_154_145, s_154_148, s_154_149, s_154_150, s_154_151, s_154_154, s_154_157, s_154_158, s_154_159, s_154_162, s_154_163, s_154_164, s_154_165, s_154_168, s_154_169, s_154_170, s_154_173, s_154_176, ↓reduceIte, e24, i_in, i_cl, true_and, e68', h27, e69, i_1s, i_or, i_add]
        exact r6 d Q o2
    · have hlt := ix_lt (hgc.resolve_right h9)
      have ne : (ix S t (g c) = (wlS S t).length) = False := eq_false (by omega)
      rw [if_neg h9, Nat.or_zero] at rt
      by_cases hw0 : w = 0
      · obtain ⟨M1, r1, r2, r3, r4, r5, r6⟩ := nxt (up M' 70 k (nI (ix S t (g c)))) (fun c h1 h2 => by rw [up_ne _ _ _ h2]) (fun j hj => by rw [up_ne _ _ _ (by decide)]) (by rw [up_ne _ _ _ (by decide), rt]; exact h27) (fun q => by omega) (fun _ => ⟨up_at, fun j hj => up_off hj⟩)
        refine ⟨M1, r1, r2, r3, r4, r5, fun d Q o2 => ?_⟩
        rw [s_154_103]
        simp (disch := omega) only [s_154_104, s_154_105, s_154_108, s_154_111, s_154_112, s_154_115, s_154_116, s_154_117, s_154_120, s_154_123, s_154_124, s_154_127, s_154_128, s_154_129, s_154_132, s_154_133, s_154_136, s_154_137, s_154_138, s_154_139, s_154_140, s_154_141, s_154_144, s_154_145, s_154_148, s_154_149, s_154_150, s_154_151, s_154_154, s_154_157, s_154_158, s_154_159, s_154_162, s_154_163, s_154_164, s_154_165, s_154_168, s_154_169, s_154_170, s_154_173, s_154_176, ↓reduceIte, e24, i_lt, hk2, e26, i_e0, hw0, i_in, i_cl, true_and, e68, up_ne, h27, i_eq, ne, i_or, Nat.or_zero, i_add]
        rw [up_same (c := 53) (by rw [up_ne _ _ _ (by decide)]; exact h27)]
        exact r6 d Q o2
      · obtain ⟨M1, r1, r2, r3, r4, r5, r6⟩ := nxt M' (fun _ _ _ => rfl) (fun _ _ => rfl) (by rw [rt]; exact h27) (fun _ => rfl) (fun q => absurd q hw0)
        refine ⟨M1, r1, r2, r3, r4, r5, fun d Q o2 => ?_⟩
        rw [s_154_103]
        simp (disch := omega) only [s_154_104, s_154_105, s_154_108, s_154_111, s_154_112, s_154_115, s_154_116, s_154_117, s_154_120, s_154_123, s_154_124, s_154_127, s_154_128, s_154_129, s_154_132, s_154_133, s_154_136, s_154_137, s_154_138, ↓reduceIte, e24, i_lt, hk2, e26, i_e0, hw0, i_in, i_cl, true_and]
        rw [up_same rfl]
        simp (disch := omega) only [s_154_139, s_154_140, s_154_141, s_154_144, s_154_145, s_154_148, s_154_149, s_154_150, s_154_151, s_154_154, s_154_157, s_154_158, s_154_159, s_154_162, s_154_163, s_154_164, s_154_165, s_154_168, s_154_169, s_154_170, s_154_173, s_154_176, ↓reduceIte, e24, i_in, i_cl, true_and, e68, i_eq, ne, h27, i_or, Nat.or_zero, i_add]
        rw [up_same h27]
        exact r6 d Q o2
/-- one row -/
theorem en_one (hW : WF S) (ht : t < 4) (hC : RepM M S) (hw : WHO M S t) (hr : ROW M S t g) (hg : cls S t g) {a : acT} (ha : ACC M S t a) (hw9 : a.1 < 1000000) (hf : a.2.1 < 64) {o3 : Option Value} : ∃ M1 o3', frE M M1 ∧ ROW M1 S t g ∧ ACC M1 S t (sta (sr S t) (wlS S t) a g) ∧ ∀ d Q, Go (d + 3) 154 93 [some (.ref 53), some (.int (nI t)), some (.int (nI 1)), o3] [] (HP lx xs M) Q = Go (d + 3) 154 189 [some (.ref 53), some (.int (nI t)), some (.int (nI 1)), o3'] [] (HP lx xs M1) Q := by
  have iw := fun d Q => c_X7_isWay (d := d) (Q := Q) (lx := lx) (xs := xs) hW hC ht hw hr hg
  obtain ⟨a1, a2, a3⟩ := ha
  by_cases hv : vld (sr S t) (wlS S t) g = true
  · rw [hv] at iw
    obtain ⟨M1, r1, r2, r3, r4, r5, r6⟩ := ll_keep (lx := lx) (xs := xs) (F := a.2.2) hw hr hg hw9 hf (wlS S t).length 0 M (by omega) (fun _ _ _ => rfl) (fun _ _ => rfl) a1 (by rw [List.take_zero, rml, Nat.or_zero]; exact a2) a3 (fun _ j c hj => by omega)
    have e26 : M1 53 26 = nI a.1 := by rw [r2 26 (by decide)]; exact a1
    refine ⟨up M1 53 26 (nI (a.1 + 1)), some (.int (nI (wlS S t).length)), ⟨fun c h1 h2 h3 => by rw [up_ne _ _ _ h1]; exact r1 c h1 h3, fun j h1 h2 => by rw [up_off h1]; exact r2 j h2⟩, fun k c hk => by rw [up_ne _ _ _ (by decide), r1 68 (by decide) (by decide)]; exact hr k c hk, ?_, fun d Q => ?_⟩
    · unfold sta
      rw [if_pos hv]
      refine ⟨up_at, by rw [up_off (by decide)]; exact r3, fun _ k c hk => ?_⟩
      rw [up_ne _ _ _ (by decide)]
      dsimp only
      by_cases h0 : a.1 = 0
      · rw [if_pos h0]; exact r5 h0 k c hk
      · rw [if_neg h0]; exact r4 (by omega) k c hk
    · simp (disch := omega) only [s_154_93, s_154_94, s_154_95, s_154_98, s_154_101, s_154_102, ↓reduceIte, iw, ap_some, bI_0, Bool.true_eq_false]
      rw [r6]
      simp (disch := omega) only [s_154_179, s_154_180, s_154_181, s_154_184, s_154_185, s_154_186, e26, i_add]
  · rw [Bool.not_eq_true] at hv
    rw [hv] at iw
    refine ⟨M, o3, frE_rf M, hr, ?_, fun d Q => ?_⟩
    · unfold sta
      rw [if_neg (by rw [hv]; simp)]
      exact ⟨a1, a2, a3⟩
    · simp (disch := omega) only [s_154_93, s_154_94, s_154_95, s_154_98, ↓reduceIte, iw, ap_some, bI_0]
end EN
