/-! first mouths: all can be reached, or there is no way -/
def stp (src : Nat → Nat) (c X : Nat) : Nat := if src c &&& X = 0 then X else X ||| 2 ^ c
def r1 (src : Nat → Nat) : Nat → Nat → Nat
  | 0, X => X
  | j + 1, X => stp src j (r1 src j X)
def rrn (src : Nat → Nat) : Nat → Nat → Nat
  | 0, X => X
  | k + 1, X => r1 src 6 (rrn src k X)
theorem pcn_or : ∀ X, X < 64 → ∀ c, c < 6 → X.testBit c = false → pcn (X ||| 2 ^ c) = pcn X + 1 := by decide +kernel
theorem wlK_len : ∀ K, K < 64 → (wlK K).length = pcn K ∧ pcn K ≤ 6 := by decide +kernel
theorem it_9 {g : Nat → Nat} : ∀ j, it g j 9 = 9 := by
  intro j
  cases j with
  | zero => rfl
  | succ j => rw [it, if_pos rfl]
theorem it_up {g : Nat → Nat} : ∀ j c, it g j c = 9 → it g (j + 1) c = 9 := by
  intro j
  induction j with
  | zero => intro c h; rw [it] at h; rw [h]; exact it_9 1
  | succ j ih =>
    intro c h
    rw [it] at h ⊢
    by_cases e : c = 9
    · rw [if_pos e]
    · rw [if_neg e] at h ⊢; exact ih _ h
theorem it_le {g : Nat → Nat} {c : Nat} {j : Nat} (h : it g j c = 9) : ∀ k, j ≤ k → it g k c = 9 := by
  intro k
  induction k with
  | zero => intro hk; rw [show j = 0 by omega] at h; exact h
  | succ k ih =>
    intro hk
    by_cases e : j = k + 1
    · rw [← e]; exact h
    · exact it_up k c (ih (by omega))
section RE
variable {src : Nat → Nat} {K r : Nat}
theorem stp_mono {c X i : Nat} (h : X.testBit i = true) : (stp src c X).testBit i = true := by
  unfold stp
  split
  · exact h
  · rw [Nat.testBit_or, h]; rfl
theorem r1_mono {X i : Nat} (h : X.testBit i = true) : ∀ j, (r1 src j X).testBit i = true := by
  intro j
  induction j with
  | zero => exact h
  | succ j ih => exact stp_mono ih
theorem rrn_mono {X i : Nat} (h : X.testBit i = true) : ∀ j, (rrn src j X).testBit i = true := by
  intro j
  induction j with
  | zero => exact h
  | succ j ih => exact r1_mono ih 6
theorem and_ne {x y p : Nat} (h1 : x.testBit p = true) (h2 : y.testBit p = true) : ¬ x &&& y = 0 := fun q => by
  have : (x &&& y).testBit p = true := by rw [Nat.testBit_and, h1, h2]; rfl
  rw [q, Nat.zero_testBit] at this
  cases this
theorem r1_add {X c p : Nat} (h1 : (src c).testBit p = true) (h2 : X.testBit p = true) : ∀ j, c < j → (r1 src j X).testBit c = true := by
  intro j
  induction j with
  | zero => intro h; omega
  | succ j ih =>
    intro h
    rw [r1]
    by_cases e : c = j
    · subst e
      unfold stp
      rw [if_neg (and_ne h1 (r1_mono h2 c)), Nat.testBit_or, Nat.testBit_two_pow_self, Bool.or_true]
    · exact stp_mono (ih (by omega))
/-- what a set of children who have it by then tells -/
def Inv (src : Nat → Nat) (K r X : Nat) : Prop := X < 64 ∧ X.testBit r = true ∧ (∀ c, X.testBit c = true → K.testBit c = true) ∧ ∃ g dep : Nat → Nat, g r = 9 ∧ (∀ c, X.testBit c = true → c ≠ r → (src c).testBit (g c) = true ∧ X.testBit (g c) = true ∧ dep (g c) < dep c) ∧ ∀ c, X.testBit c = true → dep c < pcn X
theorem Inv_stp (h0 : ∀ c, K.testBit c = false → src c = 0) {c X : Nat} (hc : c < 6) (h : Inv src K r X) : Inv src K r (stp src c X) := by
  unfold stp
  by_cases e : src c &&& X = 0
  · rw [if_pos e]; exact h
  · rw [if_neg e]
    by_cases ex : X.testBit c = true
    · rw [show X ||| 2 ^ c = X from Nat.eq_of_testBit_eq fun i => by
        rw [Nat.testBit_or]
        by_cases q : i = c
        · subst q; rw [ex]; rfl
        · rw [Nat.testBit_two_pow_of_ne (fun z => q z.symm), Bool.or_false]]
      exact h
    · rw [Bool.not_eq_true] at ex
      obtain ⟨hX, hr, hK, g, dep, g1, g2, g3⟩ := h
      obtain ⟨p, hp⟩ := Nat.exists_testBit_of_ne_zero e
      rw [Nat.testBit_and, Bool.and_eq_true] at hp
      obtain ⟨p1, p2⟩ := hp
      have hpc := pcn_or X hX c hc ex
      have hcr : c ≠ r := fun q => by rw [q, hr] at ex; cases ex
      have bt : ∀ i, (X ||| 2 ^ c).testBit i = true → i = c ∨ X.testBit i = true := fun i hi => by
        by_cases q : i = c
        · exact Or.inl q
        · rw [Nat.testBit_or, Nat.testBit_two_pow_of_ne (fun z => q z.symm), Bool.or_false] at hi
          exact Or.inr hi
      have bm : ∀ i, X.testBit i = true → (X ||| 2 ^ c).testBit i = true := fun i hi => by rw [Nat.testBit_or, hi]; rfl
      have ne : ∀ i, X.testBit i = true → i ≠ c := fun i hi q => by rw [q, ex] at hi; cases hi
      refine ⟨or_lt (n := 6) hX hc, bm r hr, fun i hi => ?_, fu g c p, fu dep c (dep p + 1), ?_, fun i hi hir => ?_, fun i hi => ?_⟩
      · rcases bt i hi with q | q
        · subst q
          rw [← Bool.not_eq_false]
          intro z
          rw [h0 i z, Nat.zero_and] at e
          exact e rfl
        · exact hK i q
      · rw [fu_off (fun q => hcr q.symm)]; exact g1
      · rcases bt i hi with q | q
        · subst q
          rw [fu_at, fu_at, fu_off (ne p p2)]
          exact ⟨p1, bm p p2, by omega⟩
        · obtain ⟨a1, a2, a3⟩ := g2 i q hir
          rw [fu_off (ne i q), fu_off (ne i q), fu_off (ne _ a2)]
          exact ⟨a1, bm _ a2, a3⟩
      · rcases bt i hi with q | q
        · subst q
          rw [fu_at]
          have := g3 p p2
          omega
        · rw [fu_off (ne i q)]
          have := g3 i q
          omega
theorem Inv_r1 (h0 : ∀ c, K.testBit c = false → src c = 0) {X : Nat} (h : Inv src K r X) : ∀ j, j ≤ 6 → Inv src K r (r1 src j X) := by
  intro j
  induction j with
  | zero => intro _; exact h
  | succ j ih => intro hj; exact Inv_stp h0 (by omega) (ih (by omega))
theorem Inv_rrn (h0 : ∀ c, K.testBit c = false → src c = 0) {X : Nat} (h : Inv src K r X) : ∀ j, Inv src K r (rrn src j X) := by
  intro j
  induction j with
  | zero => exact h
  | succ j ih => exact Inv_r1 h0 ih 6 (by omega)
theorem Inv_0 (hK : K < 64) (hr : K.testBit r = true) : Inv src K r (2 ^ r) := by
  have hr6 : r < 6 := tb_lt (n := 6) hK hr
  have b : ∀ c, (2 ^ r).testBit c = true → c = r := fun c hc => by
    by_cases q : c = r
    · exact q
    · rw [Nat.testBit_two_pow_of_ne (fun z => q z.symm)] at hc; cases hc
  have p1 : ∀ r, r < 6 → pcn (2 ^ r) = 1 := by decide +kernel
  refine ⟨Nat.pow_lt_pow_right (by decide) hr6, Nat.testBit_two_pow_self, fun c hc => by rw [b c hc]; exact hr, fun _ => 9, fun _ => 0, rfl, fun c hc hcr => absurd (b c hc) hcr, fun c hc => by rw [p1 r hr6]; exact Nat.zero_lt_one⟩
theorem rts_two {wl : List Nat} {g : Nat → Nat} {a b : Nat} (h : rts wl g = 1) (ha : a ∈ wl) (hb : b ∈ wl) (ga : g a = 9) (gb : g b = 9) : a = b := by
  unfold rts at h
  rw [List.countP_eq_length_filter] at h
  obtain ⟨x, hx⟩ := List.length_eq_one_iff.mp h
  have h1 : a ∈ wl.filter (fun c => g c == 9) := List.mem_filter.mpr ⟨ha, by rw [ga]; rfl⟩
  have h2 : b ∈ wl.filter (fun c => g c == 9) := List.mem_filter.mpr ⟨hb, by rw [gb]; rfl⟩
  rw [hx, List.mem_singleton] at h1 h2
  rw [h1, h2]
theorem vld_of {g : Nat → Nat} (h : vld src (wlK K) g = true) : (∀ c, c < 6 → K.testBit c = true → g c = 9 ∨ (src c).testBit (g c) = true) ∧ rts (wlK K) g = 1 ∧ (∀ c, c < 6 → K.testBit c = true → it g (wlK K).length c = 9) := by
  unfold vld okg acy at h
  rw [Bool.and_eq_true, Bool.and_eq_true, List.all_eq_true, List.all_eq_true] at h
  obtain ⟨h1, h2, h3⟩ := h
  refine ⟨fun c c6 cK => ?_, eq_of_beq h2, fun c c6 cK => eq_of_beq (h3 c (wlK_mem.mpr ⟨c6, cK⟩))⟩
  have := h1 c (wlK_mem.mpr ⟨c6, cK⟩)
  rw [Bool.or_eq_true] at this
  rcases this with q | q
  · exact Or.inl (eq_of_beq q)
  · exact Or.inr q
/-- one reaches all just if there is a way with it as the first mouth -/
theorem reach_iff (hK : K < 64) (hs : ∀ c p, (src c).testBit p = true → K.testBit p = true) (h0 : ∀ c, K.testBit c = false → src c = 0) (hr : K.testBit r = true) : rrn src 5 (2 ^ r) = K ↔ ∃ g, vld src (wlK K) g = true ∧ g r = 9 := by
  have hr6 : r < 6 := tb_lt (n := 6) hK hr
  have IV := Inv_rrn h0 (Inv_0 (src := src) hK hr) 5
  obtain ⟨wl1, wl2⟩ := wlK_len K hK
  constructor
  · intro e
    obtain ⟨hX, -, -, g, dep, g1, g2, g3⟩ := IV
    rw [e] at g2 g3
    have gk : ∀ c, K.testBit c = true → c ≠ r → g c < 6 := fun c hc hcr => tb_lt (n := 6) hK (hs c _ (g2 c hc hcr).1)
    have itg : ∀ j c, K.testBit c = true → dep c < j → it g j c = 9 := by
      intro j
      induction j with
      | zero => intro c _ h; omega
      | succ j ih =>
        intro c hc hd
        have c6 : c < 6 := tb_lt (n := 6) hK hc
        rw [it, if_neg (by omega)]
        by_cases q : c = r
        · rw [q, g1]; exact it_9 j
        · obtain ⟨a1, a2, a3⟩ := g2 c hc q
          exact ih (g c) a2 (by omega)
    refine ⟨g, ?_, g1⟩
    unfold vld okg acy
    rw [Bool.and_eq_true, Bool.and_eq_true, List.all_eq_true, List.all_eq_true]
    refine ⟨fun c hc => ?_, ?_, fun c hc => ?_⟩
    · obtain ⟨c6, cK⟩ := wlK_mem.mp hc
      rw [Bool.or_eq_true]
      by_cases q : c = r
      · left; rw [q, g1]; rfl
      · right; exact (g2 c cK q).1
    · rw [beq_iff_eq]
      unfold rts
      rw [List.countP_congr (q := fun c => c == r) (fun c hc => ?_)]
      · exact List.Nodup.count (wlK_nd K) |>.trans (if_pos (wlK_mem.mpr ⟨hr6, hr⟩))
      · obtain ⟨c6, cK⟩ := wlK_mem.mp hc
        by_cases q : c = r
        · subst q; rw [g1]; simp
        · have := gk c cK q
          constructor
          · intro z; have := eq_of_beq z; omega
          · intro z; exact absurd (eq_of_beq z) q
    · obtain ⟨c6, cK⟩ := wlK_mem.mp hc
      rw [beq_iff_eq]
      exact itg _ c cK (by rw [wl1]; exact g3 c cK)
  · rintro ⟨g, hv, gr⟩
    obtain ⟨v1, v2, v3⟩ := vld_of hv
    have inX : ∀ j c, c < 6 → K.testBit c = true → it g (j + 1) c = 9 → (rrn src j (2 ^ r)).testBit c = true := by
      intro j
      induction j with
      | zero =>
        intro c c6 cK h
        rw [it, if_neg (by omega), it] at h
        rw [rts_two v2 (wlK_mem.mpr ⟨c6, cK⟩) (wlK_mem.mpr ⟨hr6, hr⟩) h gr]
        exact Nat.testBit_two_pow_self
      | succ j ih =>
        intro c c6 cK h
        rw [it, if_neg (by omega)] at h
        rcases v1 c c6 cK with q | q
        · rw [rts_two v2 (wlK_mem.mpr ⟨c6, cK⟩) (wlK_mem.mpr ⟨hr6, hr⟩) q gr]
          exact rrn_mono Nat.testBit_two_pow_self _
        · have k1 := hs c _ q
          have k2 := ih (g c) (tb_lt (n := 6) hK k1) k1 h
          exact r1_add q k2 6 c6
    apply Nat.eq_of_testBit_eq
    intro i
    rw [Bool.eq_iff_iff]
    constructor
    · exact IV.2.2.1 i
    · intro hi
      have i6 : i < 6 := tb_lt (n := 6) hK hi
      exact inX 5 i i6 hi (it_le (v3 i i6 hi) 6 (by omega))
end RE
