/-! the reference's rows of ways: who, row, one way, the next row -/
def wlS (S : Nat → Nat → Nat) (t : Nat) : List Nat := wlK (KK S t)
theorem ls_stab {p : Nat → Bool} {n : Nat} : ∀ j, n ≤ j → (∀ i, n ≤ i → p i = false) → ls p j = ls p n := by
  intro j
  induction j with
  | zero => intro h _; rw [show n = 0 by omega]
  | succ j ih =>
    intro h hp
    by_cases e : n = j + 1
    · rw [e]
    · rw [ls_s, if_neg (by rw [hp j (by omega)]; simp)]
      exact ih (by omega) hp
theorem wlS_ls {S : Nat → Nat → Nat} (hn : S 0 0 ≤ 6) {t : Nat} : ls (pk S t) (S 0 0) = wlS S t := by
  unfold wlS wlK
  rw [show (fun c => (KK S t).testBit c) = pk S t from funext fun c => KK_bit hn]
  exact (ls_stab 6 hn (fun i hi => by unfold pk; rw [decide_eq_false (by omega)]; rfl)).symm
theorem wlS_mem {S : Nat → Nat → Nat} (hn : S 0 0 ≤ 6) {t c : Nat} : c ∈ wlS S t ↔ pk S t c = true := by
  unfold wlS
  rw [wlK_mem, KK_bit hn]
  constructor
  · exact fun h => h.2
  · intro h
    refine ⟨?_, h⟩
    unfold pk at h
    have := of_decide_eq_true (Bool.and_eq_true_iff.mp h).1
    omega
theorem wlS_len (S : Nat → Nat → Nat) (t : Nat) : (wlS S t).length ≤ 6 := by
  obtain ⟨a, b⟩ := wlK_len (KK S t) KK_lt
  unfold wlS
  omega
/-- the place of a child in the row of those who know it; of nobody: behind them all -/
def ix (S : Nat → Nat → Nat) (t u : Nat) : Nat := if u = 9 then (wlS S t).length else (ls (fun c => (KK S t).testBit c) u).length
theorem ix_9 {S : Nat → Nat → Nat} {t : Nat} : ix S t 9 = (wlS S t).length := if_pos rfl
theorem ix_at {S : Nat → Nat → Nat} {t c : Nat} (h : c ∈ wlS S t) : (wlS S t)[ix S t c]? = some c := by
  have h6 := wlK_mem.mp h
  unfold ix
  rw [if_neg (by omega)]
  exact ls_at (p := fun c => (KK S t).testBit c) h6.2 6 h6.1
theorem ix_lt {S : Nat → Nat → Nat} {t c : Nat} (h : c ∈ wlS S t) : ix S t c < (wlS S t).length := (List.getElem?_eq_some_iff.mp (ix_at h)).1
theorem ix_le {S : Nat → Nat → Nat} {t u : Nat} (h : u ∈ wlS S t ∨ u = 9) : ix S t u ≤ (wlS S t).length := by
  rcases h with h | h
  · exact Nat.le_of_lt (ix_lt h)
  · rw [h, ix_9]; exact Nat.le_refl _
theorem ix_eq {S : Nat → Nat → Nat} {t u : Nat} (h : u ∈ wlS S t ∨ u = 9) : ix S t u = (wlS S t).length ↔ u = 9 := by
  constructor
  · intro e
    rcases h with h | h
    · have := ix_lt h; omega
    · exact h
  · intro e; rw [e, ix_9]
theorem ix_who {S : Nat → Nat → Nat} {t k c : Nat} (h : (wlS S t)[k]? = some c) : c ∈ wlS S t ∧ ix S t c = k := by
  have hm : c ∈ wlS S t := List.mem_of_getElem? h
  refine ⟨hm, ?_⟩
  obtain ⟨a1, -⟩ := List.getElem?_eq_some_iff.mp h
  obtain ⟨j, j6, pj, jl⟩ := ls_ex (p := fun c => (KK S t).testBit c) 6 a1
  have h3 : (wlS S t)[k]? = some j := by
    have := ls_at pj 6 j6
    rw [jl] at this
    exact this
  rw [h3] at h
  have e : j = c := Option.some.inj h
  rw [← e]
  unfold ix
  rw [if_neg (by omega)]
  exact jl
def WHO (M : Nat → Nat → Int32) (S : Nat → Nat → Nat) (t : Nat) : Prop := M 53 24 = nI (wlS S t).length ∧ ∀ k c, (wlS S t)[k]? = some c → M 69 k = nI c
def ROW (M : Nat → Nat → Int32) (S : Nat → Nat → Nat) (t : Nat) (g : Nat → Nat) : Prop := ∀ k c, (wlS S t)[k]? = some c → M 68 k = nI (ix S t (g c))
def cls (S : Nat → Nat → Nat) (t : Nat) (g : Nat → Nat) : Prop := ∀ c, c ∈ wlS S t → g c ∈ wlS S t ∨ g c = 9
theorem take_s {l : List Nat} {k c : Nat} (h : l[k]? = some c) : l.take (k + 1) = l.take k ++ [c] := by
  rw [List.take_succ, h]
  rfl
section FI2
variable {d : Nat} {Q : Option Value → ex_H → Prop} {lx : Nat} {xs : Nat → Int32} {M : Nat → Nat → Int32} {S : Nat → Nat → Nat} {t c p k : Nat} {g : Nat → Nat}
theorem c_X7_canHave (hW : WF S) (hC : RepM M S) (ht : t < 4) (hc : c ∈ wlS S t) (hp : p ∈ wlS S t) : Go (d + 1) 151 0 [some (.ref 53), some (.int (nI c)), some (.int (nI p)), some (.int (nI t))] [] (HP lx xs M) Q = Q (some (.int (bI ((sr S t c).testBit p)))) (HP lx xs M) := by
  have w1 := hW.1
  have pc := (wlS_mem w1).mp hc
  have pp := (wlS_mem w1).mp hp
  have pc' := pc
  have pp' := pp
  unfold pk at pc' pp'
  simp only [Bool.and_eq_true, decide_eq_true_eq] at pc' pp'
  obtain ⟨c1, c2⟩ := pc'
  obtain ⟨p1, p2⟩ := pp'
  have e1 := hC.2.2.2.2.2.1 c (by omega)
  have e2 := hC.2.2.2.2.1 (4 * c + t) (by omega)
  have e3 := hC.2.2.2.1 p (by omega)
  have e4 := hC.2.2.2.2.1 (4 * p + t) (by omega)
  have v1 := hW.2.2.2.2.2.1 c (by omega)
  have v3 := hW.2.2.2.1 p (by omega)
  rw [Nat.mul_comm 4 c] at e2
  rw [Nat.mul_comm 4 p] at e4
  have hpl := ps_lt (k := S 1 p) p2
  have f : (sr S t c).testBit p = ((S 3 c).testBit p && decide (S 2 (c * 4 + t) = ps (S 1 p) (S 2 (p * 4 + t)))) := by
    rw [sr_bit w1]; unfold fE; rw [pc, pp]; rfl
  rw [f]
  by_cases h1 : c = p
  · subst h1
    rw [hW.2.2.1.2 c c1, Bool.false_and]
    simp (disch := omega) only [s_151_0, s_151_1, s_151_2, s_151_5, s_151_6, s_151_9, s_151_10, s_151_11, s_151_12, s_151_15, s_151_18, s_151_19, s_151_22, s_151_23, s_151_24, s_151_25, s_151_26, s_151_27, s_151_28, s_151_29, s_151_32, s_151_33, s_151_34, s_151_35, s_151_38, s_151_39, s_151_40, s_151_41, s_151_42, s_151_43, s_151_44, s_151_47, s_151_50, s_151_51, s_151_54, s_151_55_0, s_151_55_1, sb_151_55, ↓reduceIte]
    rfl
  · have h1' : (nI c = nI p) = False := by rw [i_eq (by omega) (by omega)]; exact eq_false h1
    by_cases h2 : (S 3 c).testBit p = true
    · rw [h2, Bool.true_and]
      by_cases h3 : S 2 (c * 4 + t) = ps (S 1 p) (S 2 (p * 4 + t))
      · rw [decide_eq_true h3]
        rw [Nat.mul_comm c 4] at e2 h3
        rw [Nat.mul_comm p 4] at e4 h3 hpl p2
        simp (disch := omega) only [s_151_0, s_151_1, s_151_2, s_151_5, s_151_6, s_151_9, s_151_10, s_151_11, s_151_12, s_151_15, s_151_18, s_151_19, s_151_22, s_151_23, s_151_24, s_151_25, s_151_26, s_151_27, s_151_28, s_151_29, s_151_32, s_151_33, s_151_34, s_151_35, s_151_38, s_151_39, s_151_40, s_151_41, s_151_42, s_151_43, s_151_44, s_151_47, s_151_50, s_151_51, s_151_54, s_151_55_0, s_151_55_1, sb_151_55, ↓reduceIte, h1', i_in, i_cl, true_and, e1, c_X7_has, h2, ap_some, bI_0, Bool.true_eq_false, i_mul, i_add, e2, e3, e4, c_X7_pass, i_eq, h3]
        rfl
      · rw [decide_eq_false h3]
        rw [Nat.mul_comm c 4] at e2 h3
        rw [Nat.mul_comm c 4] at c2
        rw [Nat.mul_comm p 4] at e4 h3 hpl p2
        simp (disch := omega) only [s_151_0, s_151_1, s_151_2, s_151_5, s_151_6, s_151_9, s_151_10, s_151_11, s_151_12, s_151_15, s_151_18, s_151_19, s_151_22, s_151_23, s_151_24, s_151_25, s_151_26, s_151_27, s_151_28, s_151_29, s_151_32, s_151_33, s_151_34, s_151_35, s_151_38, s_151_39, s_151_40, s_151_41, s_151_42, s_151_43, s_151_44, s_151_47, s_151_50, s_151_51, s_151_54, s_151_55_0, s_151_55_1, sb_151_55, ↓reduceIte, h1', i_in, i_cl, true_and, e1, c_X7_has, h2, ap_some, bI_0, Bool.true_eq_false, i_mul, i_add, e2, e3, e4, c_X7_pass, i_eq, h3]
        rfl
    · rw [Bool.not_eq_true] at h2
      rw [h2, Bool.false_and]
      simp (disch := omega) only [s_151_0, s_151_1, s_151_2, s_151_5, s_151_6, s_151_9, s_151_10, s_151_11, s_151_12, s_151_15, s_151_18, s_151_19, s_151_22, s_151_23, s_151_24, s_151_25, s_151_26, s_151_27, s_151_28, s_151_29, s_151_32, s_151_33, s_151_34, s_151_35, s_151_38, s_151_39, s_151_40, s_151_41, s_151_42, s_151_43, s_151_44, s_151_47, s_151_50, s_151_51, s_151_54, s_151_55_0, s_151_55_1, sb_151_55, ↓reduceIte, h1', i_in, i_cl, true_and, e1, c_X7_has, h2, ap_some, bI_0]
      rfl
theorem okg_take (h : (wlS S t)[k]? = some c) : okg (sr S t) ((wlS S t).take (k + 1)) g = (okg (sr S t) ((wlS S t).take k) g && (g c == 9 || (sr S t c).testBit (g c))) := by
  rw [take_s h]
  unfold okg
  rw [List.all_append]
  simp only [List.all_cons, List.all_nil, Bool.and_true]
theorem rts_take (h : (wlS S t)[k]? = some c) : rts ((wlS S t).take (k + 1)) g = rts ((wlS S t).take k) g + (if g c = 9 then 1 else 0) := by
  rw [take_s h]
  unfold rts
  rw [List.countP_append, List.countP_singleton]
  congr 1
  by_cases e : g c = 9
  · rw [if_pos e, if_pos (by rw [e]; rfl)]
  · rw [if_neg e, if_neg (by simpa using e)]
theorem rts_mono {j : Nat} (h : k ≤ j) : rts ((wlS S t).take k) g ≤ rts ((wlS S t).take j) g := by
  unfold rts
  exact List.Sublist.countP_le (List.take_sublist_take_left h)
theorem okg_mono {j : Nat} (h : k ≤ j) (ho : okg (sr S t) ((wlS S t).take j) g = true) : okg (sr S t) ((wlS S t).take k) g = true := by
  unfold okg at ho ⊢
  rw [List.all_eq_true] at ho ⊢
  exact fun x hx => ho x ((List.take_sublist_take_left h).subset hx)
/-- the first loop of isWay: sources, and how many had it from nobody -/
theorem ll_isWay1 (hW : WF S) (hC : RepM M S) (ht : t < 4) (hw : WHO M S t) (hr : ROW M S t g) (hg : cls S t g) : ∀ n k, k + n = (wlS S t).length → okg (sr S t) ((wlS S t).take k) g = true → rts ((wlS S t).take k) g < 2 → ((okg (sr S t) (wlS S t) g = true ∧ rts (wlS S t) g < 2) → ∀ d Q o5 o6, Go (d + 2) 152 7 [some (.ref 53), some (.int (nI t)), some (.int (nI (rts ((wlS S t).take k) g))), some (.int (nI 1)), some (.int (nI k)), o5, o6] [] (HP lx xs M) Q = Go (d + 2) 152 100 [some (.ref 53), some (.int (nI t)), some (.int (nI (rts (wlS S t) g))), some (.int (nI 1)), some (.int (nI (wlS S t).length)), o5, o6] [] (HP lx xs M) Q) ∧ (¬ (okg (sr S t) (wlS S t) g = true ∧ rts (wlS S t) g < 2) → ∃ x y, ∀ d Q o5 o6, Go (d + 2) 152 7 [some (.ref 53), some (.int (nI t)), some (.int (nI (rts ((wlS S t).take k) g))), some (.int (nI 1)), some (.int (nI k)), o5, o6] [] (HP lx xs M) Q = Go (d + 2) 152 100 [some (.ref 53), some (.int (nI t)), some (.int x), some (.int (nI 0)), some (.int y), o5, o6] [] (HP lx xs M) Q) := by
  have hl := wlS_len S t
  obtain ⟨hw1, hw2⟩ := hw
  intro n
  induction n with
  | zero =>
    intro k hk ho hrt
    have e : k = (wlS S t).length := by omega
    subst e
    rw [List.take_length] at ho hrt
    refine ⟨fun _ d Q o5 o6 => ?_, fun h => absurd ⟨ho, hrt⟩ h⟩
    rw [List.take_length, s_152_7]
    simp (disch := omega) only [s_152_9, s_152_10, s_152_13, ↓reduceIte, hw1, i_lt, Nat.lt_irrefl]
  | succ n ih =>
    intro k hk ho hrt
    have hk2 : k < (wlS S t).length := by omega
    obtain ⟨c, hck⟩ : ∃ c, (wlS S t)[k]? = some c := ⟨_, List.getElem?_eq_getElem hk2⟩
    have e69 := hw2 k c hck
    have e68 := hr k c hck
    have hcm := (ix_who hck).1
    have hgc := hg c hcm
    have hle := ix_le hgc
    have ot := okg_take (g := g) hck
    have rt := rts_take (g := g) hck
    have fin : ¬ (okg (sr S t) ((wlS S t).take (k + 1)) g = true ∧ rts ((wlS S t).take (k + 1)) g < 2) → ¬ (okg (sr S t) (wlS S t) g = true ∧ rts (wlS S t) g < 2) := by
      intro h1 h2
      refine h1 ⟨okg_mono (j := (wlS S t).length) (by omega) (by rw [List.take_length]; exact h2.1), ?_⟩
      have := rts_mono (S := S) (t := t) (g := g) (k := k + 1) (j := (wlS S t).length) (by omega)
      rw [List.take_length] at this
      omega
    by_cases h9 : g c = 9
    · have e68' : M 68 k = nI (wlS S t).length := by rw [e68, h9, ix_9]
      have ot2 : okg (sr S t) ((wlS S t).take (k + 1)) g = true := by rw [ot, ho, h9]; rfl
      rw [if_pos h9] at rt
      by_cases h2 : rts ((wlS S t).take k) g + 1 < 2
      · obtain ⟨i1, i2⟩ := ih (k + 1) (by omega) ot2 (by rw [rt]; exact h2)
        have st : ∀ d Q o5 o6, Go (d + 2) 152 7 [some (.ref 53), some (.int (nI t)), some (.int (nI (rts ((wlS S t).take k) g))), some (.int (nI 1)), some (.int (nI k)), o5, o6] [] (HP lx xs M) Q = Go (d + 2) 152 7 [some (.ref 53), some (.int (nI t)), some (.int (nI (rts ((wlS S t).take (k + 1)) g))), some (.int (nI 1)), some (.int (nI (k + 1))), o5, o6] [] (HP lx xs M) Q := fun d Q o5 o6 => by
          rw [s_152_7, rt]
          simp (disch := omega) only [s_152_9, s_152_10, s_152_13, s_152_16, s_152_17, s_152_20, s_152_21, s_152_22, s_152_25, s_152_27, s_152_28, s_152_29, s_152_32, s_152_35, s_152_36, s_152_39, s_152_40, s_152_41, s_152_42, s_152_43, s_152_44, s_152_47, s_152_48, s_152_51, s_152_53, s_152_54, s_152_55, s_152_58, s_152_61, s_152_62, s_152_63, s_152_66, s_152_68, s_152_69, s_152_70, s_152_73, s_152_74, s_152_77, s_152_79, s_152_80, s_152_81, s_152_82, s_152_85, s_152_88, s_152_89, s_152_92, s_152_93, s_152_94, s_152_97, ↓reduceIte, hw1, i_lt, hk2, n1_0, i_in, i_cl, true_and, e68', i_add, h2]
        exact ⟨fun h d Q o5 o6 => by rw [st, i1 h], fun h => by
          obtain ⟨x, y, i3⟩ := i2 h
          exact ⟨x, y, fun d Q o5 o6 => by rw [st, i3]⟩⟩
      · have hn := fin (fun q => h2 (by rw [← rt]; exact q.2))
        refine ⟨fun h => absurd h hn, fun _ => ⟨nI (rts ((wlS S t).take k) g + 1), nI (k + 1), fun d Q o5 o6 => ?_⟩⟩
        rw [s_152_7]
        simp (disch := omega) only [s_152_9, s_152_10, s_152_13, s_152_16, s_152_17, s_152_20, s_152_21, s_152_22, s_152_25, s_152_27, s_152_28, s_152_29, s_152_32, s_152_35, s_152_36, s_152_39, s_152_40, s_152_41, s_152_42, s_152_43, s_152_44, s_152_47, s_152_48, s_152_51, s_152_53, s_152_54, s_152_55, s_152_58, s_152_61, s_152_62, s_152_63, s_152_66, s_152_68, s_152_69, s_152_70, s_152_73, s_152_74, s_152_77, s_152_79, s_152_80, s_152_81, s_152_82, s_152_85, s_152_88, s_152_89, s_152_92, s_152_93, s_152_94, s_152_97, ↓reduceIte, hw1, i_lt, hk2, n1_0, i_in, i_cl, true_and, e68', i_add, h2]
        rw [s_152_7]
        simp (disch := omega) only [s_152_9, s_152_10, s_152_13, s_152_16, s_152_17, ↓reduceIte, hw1, n0_0, ite_self]
    · have hgm : g c ∈ wlS S t := hgc.resolve_right h9
      have hlt := ix_lt hgm
      have ne : (ix S t (g c) = (wlS S t).length) = False := eq_false (by omega)
      have e69b := hw2 _ _ (ix_at hgm)
      rw [if_neg h9, Nat.add_zero] at rt
      have ot3 : okg (sr S t) ((wlS S t).take (k + 1)) g = (sr S t c).testBit (g c) := by
        rw [ot, ho, Bool.true_and, show (g c == 9) = false from by simpa using h9, Bool.false_or]
      have ch := fun d Q => c_X7_canHave (d := d) (Q := Q) (lx := lx) (xs := xs) hW hC ht hcm hgm
      by_cases hb : (sr S t c).testBit (g c) = true
      · rw [hb] at ch ot3
        obtain ⟨i1, i2⟩ := ih (k + 1) (by omega) ot3 (by rw [rt]; exact hrt)
        have st : ∀ d Q o5 o6, Go (d + 2) 152 7 [some (.ref 53), some (.int (nI t)), some (.int (nI (rts ((wlS S t).take k) g))), some (.int (nI 1)), some (.int (nI k)), o5, o6] [] (HP lx xs M) Q = Go (d + 2) 152 7 [some (.ref 53), some (.int (nI t)), some (.int (nI (rts ((wlS S t).take (k + 1)) g))), some (.int (nI 1)), some (.int (nI (k + 1))), o5, o6] [] (HP lx xs M) Q := fun d Q o5 o6 => by
          rw [s_152_7, rt]
          simp (disch := omega) only [s_152_9, s_152_10, s_152_13, s_152_16, s_152_17, s_152_20, s_152_21, s_152_22, s_152_25, s_152_27, s_152_28, s_152_29, s_152_32, s_152_35, s_152_36, s_152_39, s_152_40, s_152_41, s_152_42, s_152_43, s_152_44, s_152_47, s_152_48, s_152_51, s_152_53, s_152_54, s_152_55, s_152_58, s_152_61, s_152_62, s_152_63, s_152_66, s_152_68, s_152_69, s_152_70, s_152_73, s_152_74, s_152_77, s_152_79, s_152_80, s_152_81, s_152_82, s_152_85, s_152_88, s_152_89, s_152_92, s_152_93, s_152_94, s_152_97, ↓reduceIte, hw1, i_lt, hk2, n1_0, i_in, i_cl, true_and, e68, i_eq, ne, i_add, Nat.add_zero, hrt, e69, e69b, ch, ap_some, bI_0, Bool.true_eq_false]
        exact ⟨fun h d Q o5 o6 => by rw [st, i1 h], fun h => by
          obtain ⟨x, y, i3⟩ := i2 h
          exact ⟨x, y, fun d Q o5 o6 => by rw [st, i3]⟩⟩
      · rw [Bool.not_eq_true] at hb
        rw [hb] at ch ot3
        have hn := fin (fun q => by rw [ot3] at q; cases q.1)
        refine ⟨fun h => absurd h hn, fun _ => ⟨nI (rts ((wlS S t).take k) g), nI (k + 1), fun d Q o5 o6 => ?_⟩⟩
        rw [s_152_7]
        simp (disch := omega) only [s_152_9, s_152_10, s_152_13, s_152_16, s_152_17, s_152_20, s_152_21, s_152_22, s_152_25, s_152_27, s_152_28, s_152_29, s_152_32, s_152_35, s_152_36, s_152_39, s_152_40, s_152_41, s_152_42, s_152_43, s_152_44, s_152_47, s_152_48, s_152_51, s_152_53, s_152_54, s_152_55, s_152_58, s_152_61, s_152_62, s_152_63, s_152_66, s_152_68, s_152_69, s_152_70, s_152_73, s_152_74, s_152_77, s_152_79, s_152_80, s_152_81, s_152_82, s_152_85, s_152_88, s_152_89, s_152_92, s_152_93, s_152_94, s_152_97, ↓reduceIte, hw1, i_lt, hk2, n1_0, i_in, i_cl, true_and, e68, i_eq, ne, i_add, Nat.add_zero, hrt, e69, e69b, ch, ap_some, bI_0]
        rw [s_152_7]
        simp (disch := omega) only [s_152_9, s_152_10, s_152_13, s_152_16, s_152_17, ↓reduceIte, hw1, n0_0, ite_self]
theorem it_cls (hg : cls S t g) : ∀ j u, (u ∈ wlS S t ∨ u = 9) → it g j u ∈ wlS S t ∨ it g j u = 9 := by
  intro j
  induction j with
  | zero => intro u h; exact h
  | succ j ih =>
    intro u h
    rw [it]
    by_cases e : u = 9
    · rw [if_pos e]; exact Or.inr rfl
    · rw [if_neg e]; exact ih _ (hg u (h.resolve_right e))
theorem ll_isWay3 (hw : WHO M S t) (hr : ROW M S t g) (hg : cls S t g) {o2 o3 o4 : Option Value} : ∀ n s u, s + n = (wlS S t).length → (u ∈ wlS S t ∨ u = 9) → ∃ y, ∀ d Q, Go d 152 123 [some (.ref 53), some (.int (nI t)), o2, o3, o4, some (.int (nI (ix S t u))), some (.int (nI s))] [] (HP lx xs M) Q = Go d 152 156 [some (.ref 53), some (.int (nI t)), o2, o3, o4, some (.int (nI (ix S t (it g n u)))), y] [] (HP lx xs M) Q := by
  have hl := wlS_len S t
  obtain ⟨hw1, hw2⟩ := hw
  intro n
  induction n with
  | zero =>
    intro s u hs hu
    have e : s = (wlS S t).length := by omega
    subst e
    have hle := ix_le hu
    refine ⟨some (.int (nI (wlS S t).length)), fun d Q => ?_⟩
    rw [s_152_123, it]
    simp (disch := omega) only [s_152_125, s_152_126, s_152_129, ↓reduceIte, hw1, i_lt, Nat.lt_irrefl]
  | succ n ih =>
    intro s u hs hu
    have hs2 : s < (wlS S t).length := by omega
    by_cases e : u = 9
    · refine ⟨some (.int (nI s)), fun d Q => ?_⟩
      rw [e, it_9, ix_9, s_152_123]
      simp (disch := omega) only [s_152_125, s_152_126, s_152_129, s_152_132, s_152_134, s_152_135, s_152_138, ↓reduceIte, hw1, i_lt, hs2, Nat.lt_irrefl]
    · have hum := hu.resolve_right e
      have hlt := ix_lt hum
      have e68 := hr _ _ (ix_at hum)
      obtain ⟨y, h⟩ := ih (s + 1) (g u) (by omega) (hg u hum)
      refine ⟨y, fun d Q => ?_⟩
      rw [it, if_neg e, ← h, s_152_123]
      simp (disch := omega) only [s_152_125, s_152_126, s_152_129, s_152_132, s_152_134, s_152_135, s_152_138, s_152_141, s_152_142, s_152_145, s_152_147, s_152_148, s_152_150, s_152_153, ↓reduceIte, hw1, i_lt, hs2, hlt, i_in, i_cl, true_and, e68, i_add]
theorem ll_isWay2 (hw : WHO M S t) (hr : ROW M S t g) (hg : cls S t g) {o2 : Option Value} : ∀ n k, k + n = (wlS S t).length → ((wlS S t).take k).all (fun c => it g (wlS S t).length c == 9) = true → ∀ o5 o6, ∃ x y z, ∀ d Q, Go d 152 103 [some (.ref 53), some (.int (nI t)), o2, some (.int (nI 1)), some (.int (nI k)), o5, o6] [] (HP lx xs M) Q = Go d 152 177 [some (.ref 53), some (.int (nI t)), o2, some (.int (bI (acy (wlS S t) g))), x, y, z] [] (HP lx xs M) Q := by
  have hl := wlS_len S t
  intro n
  induction n with
  | zero =>
    intro k hk ha o5 o6
    have e : k = (wlS S t).length := by omega
    subst e
    rw [List.take_length] at ha
    have ha2 : acy (wlS S t) g = true := ha
    refine ⟨some (.int (nI (wlS S t).length)), o5, o6, fun d Q => ?_⟩
    rw [ha2, s_152_103]
    simp (disch := omega) only [s_152_105, s_152_106, s_152_109, ↓reduceIte, hw.1, i_lt, Nat.lt_irrefl]
    rfl
  | succ n ih =>
    intro k hk ha o5 o6
    have hk2 : k < (wlS S t).length := by omega
    have hw1 := hw.1
    obtain ⟨c, hck⟩ : ∃ c, (wlS S t)[k]? = some c := ⟨_, List.getElem?_eq_getElem hk2⟩
    obtain ⟨hcm, hix⟩ := ix_who hck
    have hcl := it_cls hg (wlS S t).length c (Or.inl hcm)
    have hle := ix_le hcl
    have ta : ((wlS S t).take (k + 1)).all (fun c => it g (wlS S t).length c == 9) = (it g (wlS S t).length c == 9) := by
      rw [take_s hck, List.all_append, ha]
      simp only [List.all_cons, List.all_nil, Bool.and_true, Bool.true_and]
    obtain ⟨y0, h3⟩ := ll_isWay3 (lx := lx) (xs := xs) (o2 := o2) (o3 := some (.int (nI 1))) (o4 := some (.int (nI k))) hw hr hg (wlS S t).length 0 c (by omega) (Or.inl hcm)
    rw [hix] at h3
    have st : ∀ d Q, Go d 152 103 [some (.ref 53), some (.int (nI t)), o2, some (.int (nI 1)), some (.int (nI k)), o5, o6] [] (HP lx xs M) Q = Go d 152 156 [some (.ref 53), some (.int (nI t)), o2, some (.int (nI 1)), some (.int (nI k)), some (.int (nI (ix S t (it g (wlS S t).length c)))), y0] [] (HP lx xs M) Q := fun d Q => by
      rw [s_152_103]
      simp (disch := omega) only [s_152_105, s_152_106, s_152_109, s_152_112, s_152_113, s_152_116, s_152_118, s_152_120, s_152_121, ↓reduceIte, hw1, i_lt, hk2, n1_0]
      exact h3 d Q
    by_cases h9 : it g (wlS S t).length c = 9
    · obtain ⟨x, y, z, h⟩ := ih (k + 1) (by omega) (by rw [ta, h9]; rfl) (some (.int (nI (wlS S t).length))) y0
      refine ⟨x, y, z, fun d Q => ?_⟩
      rw [st, ← h, h9, ix_9]
      simp (disch := omega) only [s_152_156, s_152_158, s_152_159, s_152_162, s_152_165, s_152_166, s_152_169, s_152_170, s_152_171, s_152_174, ↓reduceIte, hw1, i_add]
    · have hne : (ix S t (it g (wlS S t).length c) = (wlS S t).length) = False := eq_false fun q => h9 ((ix_eq hcl).mp q)
      have ha2 : acy (wlS S t) g = false := by
        rw [← Bool.not_eq_true]
        intro q
        unfold acy at q
        rw [List.all_eq_true] at q
        exact h9 (eq_of_beq (q c hcm))
      refine ⟨some (.int (nI (k + 1))), some (.int (nI (ix S t (it g (wlS S t).length c)))), y0, fun d Q => ?_⟩
      rw [st, ha2]
      simp (disch := omega) only [s_152_156, s_152_158, s_152_159, s_152_162, s_152_165, s_152_166, s_152_169, s_152_170, s_152_171, s_152_174, ↓reduceIte, hw1, i_eq, hne, i_add]
      rw [s_152_103]
      simp (disch := omega) only [s_152_105, s_152_106, s_152_109, s_152_112, s_152_113, ↓reduceIte, hw1, n0_0, ite_self]
      rfl
theorem c_X7_isWay (hW : WF S) (hC : RepM M S) (ht : t < 4) (hw : WHO M S t) (hr : ROW M S t g) (hg : cls S t g) : Go (d + 2) 152 0 [some (.ref 53), some (.int (nI t)), none, none, none, none, none] [] (HP lx xs M) Q = Q (some (.int (bI (vld (sr S t) (wlS S t) g)))) (HP lx xs M) := by
  have hl := wlS_len S t
  obtain ⟨i1, i2⟩ := ll_isWay1 (lx := lx) (xs := xs) hW hC ht hw hr hg (wlS S t).length 0 (by omega) rfl (by show 0 < 2; decide)
  have st : Go (d + 2) 152 0 [some (.ref 53), some (.int (nI t)), none, none, none, none, none] [] (HP lx xs M) Q = Go (d + 2) 152 7 [some (.ref 53), some (.int (nI t)), some (.int (nI (rts ((wlS S t).take 0) g))), some (.int (nI 1)), some (.int (nI 0)), none, none] [] (HP lx xs M) Q := by
    simp only [s_152_0, s_152_1, s_152_2, s_152_3, s_152_4, s_152_5]
    rfl
  rw [st]
  by_cases h : okg (sr S t) (wlS S t) g = true ∧ rts (wlS S t) g < 2
  · rw [i1 h]
    obtain ⟨x, y, z, h2⟩ := ll_isWay2 (lx := lx) (xs := xs) (o2 := some (.int (nI (rts (wlS S t) g)))) hw hr hg (wlS S t).length 0 (by omega) rfl none none
    simp only [s_152_100, s_152_101]
    rw [h2]
    unfold vld
    rw [h.1, Bool.true_and]
    cases hac : acy (wlS S t) g
    · simp (disch := omega) only [s_152_177, s_152_178, s_152_181, s_152_182, s_152_183, s_152_186, s_152_187, s_152_190, s_152_191_0, s_152_191_1, sb_152_191, ↓reduceIte, bI_0, Bool.and_false]
      rfl
    · by_cases h1 : rts (wlS S t) g = 1
      · simp (disch := omega) only [s_152_177, s_152_178, s_152_181, s_152_182, s_152_183, s_152_186, s_152_187, s_152_190, s_152_191_0, s_152_191_1, sb_152_191, ↓reduceIte, bI_0, Bool.true_eq_false, i_eq, h1, Bool.and_true]
        rfl
      · have hb1 : (rts (wlS S t) g == 1) = false := by simpa using h1
        have h' := h.2
        simp (disch := omega) only [s_152_177, s_152_178, s_152_181, s_152_182, s_152_183, s_152_186, s_152_187, s_152_190, s_152_191_0, s_152_191_1, sb_152_191, ↓reduceIte, bI_0, Bool.true_eq_false, i_eq, h1, Bool.and_true, hb1]
        rfl
  · obtain ⟨x, y, h2⟩ := i2 h
    rw [h2]
    have hv : vld (sr S t) (wlS S t) g = false := by
      rw [← Bool.not_eq_true]
      intro q
      unfold vld at q
      simp only [Bool.and_eq_true, beq_iff_eq] at q
      exact h ⟨q.1, by omega⟩
    rw [hv]
    simp only [s_152_100, s_152_101]
    rw [s_152_103]
    simp (disch := omega) only [s_152_105, s_152_106, s_152_109, s_152_112, s_152_113, s_152_177, s_152_178, s_152_181, s_152_182, s_152_183, s_152_186, s_152_187, s_152_190, s_152_191_0, s_152_191_1, sb_152_191, ↓reduceIte, hw.1, n0_0, ite_self]
    rfl
end FI2
