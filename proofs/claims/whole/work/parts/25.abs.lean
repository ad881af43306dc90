/-! the school as numbers, and how the class and the reference hold it -/
def upS (S : Nat → Nat → Nat) (r i v : Nat) : Nat → Nat → Nat := fun r2 i2 => if r2 = r ∧ i2 = i then v else S r2 i2
def opn (S : Nat → Nat → Nat) (i : Nat) : Bool := decide (i = 0 ∨ S 9 i ≠ S 9 (i - 1))
def hrs (S : Nat → Nat → Nat) : Nat := if S 5 0 = 0 then 0 else S 9 (S 5 0 - 1) + 1
def WF (S : Nat → Nat → Nat) : Prop := S 0 0 ≤ 6 ∧ S 0 1 ≤ 1000000 ∧ (S 0 2 < 2147483648 ∧ ∀ c, c < S 0 0 → (S 3 c).testBit c = false) ∧ (∀ c, c < 6 → S 1 c < 4) ∧ (∀ i, i < 24 → S 2 i ≤ 97) ∧ (∀ c, c < 6 → S 3 c < 64) ∧ (∀ t, t < 4 → S 4 t < 16) ∧ S 5 0 ≤ 24 ∧ (∀ i, i < S 5 0 → S 6 i < S 0 0 ∧ S 7 i < S 0 0 ∧ S 6 i ≠ S 7 i ∧ S 8 i < 4 ∧ S 9 i ≤ i ∧ (0 < i → S 9 (i - 1) ≤ S 9 i ∧ S 9 i ≤ S 9 (i - 1) + 1))
def RepC (M : Nat → Nat → Int32) (o : Nat) (S : Nat → Nat → Nat) : Prop := M o 0 = nI (S 0 0) ∧ M o 1 = nI (S 0 1) ∧ M o 2 = nI (S 0 2) ∧ (∀ c, c < 6 → M (o + 1) c = nI (S 1 c)) ∧ (∀ i, i < 24 → M (o + 2) i = nI (S 2 i)) ∧ (∀ c, c < S 0 0 → M (o + 3) c = nI (kn (S 2) c)) ∧ (∀ c, c < 6 → M (o + 4) c = nI (S 3 c)) ∧ (∀ t, t < 4 → M (o + 5) t = nI (S 4 t)) ∧ M (o + 6) 0 = nI (S 5 0) ∧ M (o + 6) 1 = nI (hrs S) ∧ (∀ i, i < S 5 0 → M (o + 7) i = nI ((S 6 i * 6 + S 7 i) * 4 + S 8 i)) ∧ (∀ i, i < S 5 0 → M (o + 8) i = bI (opn S i))
def RepM (M : Nat → Nat → Int32) (S : Nat → Nat → Nat) : Prop := M 53 4 = nI (S 0 0) ∧ M 53 7 = nI (S 0 1) ∧ M 53 8 = nI (S 0 2) ∧ (∀ c, c < 6 → M 54 c = nI (S 1 c)) ∧ (∀ i, i < 24 → M 56 i = nI (S 2 i)) ∧ (∀ c, c < 6 → M 55 c = nI (S 3 c)) ∧ (∀ t, t < 4 → M 57 t = nI (S 4 t)) ∧ M 53 6 = nI (S 5 0) ∧ (∀ i, i < S 5 0 → M 58 (4 * i) = nI (S 6 i) ∧ M 58 (4 * i + 1) = nI (S 7 i) ∧ M 58 (4 * i + 2) = nI (S 8 i) ∧ M 58 (4 * i + 3) = nI (S 9 i))
theorem upd_at {f : Nat → Int32} {k : Nat} {x : Int32} : upd f k x k = x := if_pos rfl
theorem upd_off {f : Nat → Int32} {k j : Nat} {x : Int32} (h : j ≠ k) : upd f k x j = f j := if_neg h
theorem up_at {M : Nat → Nat → Int32} {c j : Nat} {x : Int32} : up M c j x c j = x := by rw [up_eq, upd_at]
theorem up_off {M : Nat → Nat → Int32} {c j i : Nat} {x : Int32} (h : i ≠ j) : up M c j x c i = M c i := by rw [up_eq, upd_off h]
/-- cells that the class's calls about the school leave alone -/
def prC (c : Nat) : Prop := c = 1 ∨ (15 ≤ c ∧ c ≤ 23) ∨ c = 28 ∨ c = 34 ∨ 44 ≤ c
def frC (M M1 : Nat → Nat → Int32) : Prop := ∀ c, prC c → M1 c = M c
/-- .. and the reference's -/
def frM (M M1 : Nat → Nat → Int32) : Prop := (∀ c, c < 53 → M1 c = M c) ∧ M1 59 = M 59 ∧ M1 71 = M 71 ∧ M1 72 = M 72 ∧ M1 73 = M 73 ∧ M1 74 = M 74 ∧ M1 53 10 = M 53 10 ∧ M1 53 28 = M 53 28
theorem frC.rf (M : Nat → Nat → Int32) : frC M M := fun _ _ => rfl
theorem frM.rf (M : Nat → Nat → Int32) : frM M M := ⟨fun _ _ => rfl, rfl, rfl, rfl, rfl, rfl, rfl, rfl⟩
theorem frC.tr {M M1 M2 : Nat → Nat → Int32} (a : frC M M1) (b : frC M1 M2) : frC M M2 := fun c h => (b c h).trans (a c h)
theorem frM.tr {M M1 M2 : Nat → Nat → Int32} (a : frM M M1) (b : frM M1 M2) : frM M M2 := ⟨fun c h => (b.1 c h).trans (a.1 c h), b.2.1.trans a.2.1, b.2.2.1.trans a.2.2.1, b.2.2.2.1.trans a.2.2.2.1, b.2.2.2.2.1.trans a.2.2.2.2.1, b.2.2.2.2.2.1.trans a.2.2.2.2.2.1, b.2.2.2.2.2.2.1.trans a.2.2.2.2.2.2.1, b.2.2.2.2.2.2.2.trans a.2.2.2.2.2.2.2⟩
theorem frC.up {M M1 : Nat → Nat → Int32} (a : frC M M1) (c j : Nat) (x : Int32) (hc : ¬ prC c) : frC M (up M1 c j x) := fun c2 h => (up_ne (c := c) (c2 := c2) M1 j x (fun e => hc (by rw [← e]; exact h))).trans (a c2 h)
theorem frC.upr {M M1 : Nat → Nat → Int32} (a : frC M M1) (c : Nat) (f : Nat → Int32) (hc : ¬ prC c) : frC M (upr M1 c f) := fun c2 h => (upr_ne (c := c) (c2 := c2) M1 f (fun e => hc (by rw [← e]; exact h))).trans (a c2 h)
/-- the row of what is known holds sets, also for children that are not there -/
def KB (M : Nat → Nat → Int32) (o : Nat) : Prop := ∀ i, i < 6 → ∃ a, a < 16 ∧ M o i = nI a
theorem KB_ne {M : Nat → Nat → Int32} {o : Nat} (h : KB M o) {c : Nat} (j : Nat) (x : Int32) (hc : o ≠ c) : KB (up M c j x) o := fun i hi => by rw [up_ne _ _ _ hc]; exact h i hi
theorem KB_at {M : Nat → Nat → Int32} {o : Nat} (h : KB M o) (j : Nat) {a : Nat} (ha : a < 16) : KB (up M o j (nI a)) o := fun i hi => by
  by_cases e : i = j
  · subst e
    exact ⟨a, ha, up_at⟩
  · obtain ⟨b, hb, h2⟩ := h i hi
    exact ⟨b, hb, by rw [up_off e]; exact h2⟩
/-- a call about the school: class and reference answer alike, and hold the same school again -/
def opS (k6 k7 : Nat) (L6 L7 : ex_L) (S : Nat → Nat → Nat) : Prop := ∃ (ans : Int32) (S1 : Nat → Nat → Nat), WF S1 ∧
  (∀ lx xs M, RepC M 2 S → KB M 5 → ∃ M1, RepC M1 2 S1 ∧ KB M1 5 ∧ frC M M1 ∧ ∀ Q, Go 1999 k6 0 L6 [] (HP lx xs M) Q = Q (some (.int ans)) (HP lx xs M1)) ∧
  (∀ lx xs M, RepM M S → ∃ M1, RepM M1 S1 ∧ frM M M1 ∧ ∀ Q, Go 1999 k7 0 L7 [] (HP lx xs M) Q = Q (some (.int ans)) (HP lx xs M1))
/-- such a call that changes nothing -/
theorem opS_same {k6 k7 : Nat} {L6 L7 : ex_L} {S : Nat → Nat → Nat} (ans : Int32) (hW : WF S) (h6 : ∀ lx xs M, RepC M 2 S → ∀ Q, Go 1999 k6 0 L6 [] (HP lx xs M) Q = Q (some (.int ans)) (HP lx xs M)) (h7 : ∀ lx xs M, RepM M S → ∀ Q, Go 1999 k7 0 L7 [] (HP lx xs M) Q = Q (some (.int ans)) (HP lx xs M)) : opS k6 k7 L6 L7 S :=
  ⟨ans, S, hW, fun lx xs M h hB => ⟨M, h, hB, frC.rf M, h6 lx xs M h⟩, fun lx xs M h => ⟨M, h, frM.rf M, h7 lx xs M h⟩⟩
theorem upS_at {S : Nat → Nat → Nat} {r i v : Nat} : upS S r i v r i = v := if_pos ⟨rfl, rfl⟩
theorem upS_off {S : Nat → Nat → Nat} {r i v r2 i2 : Nat} (h : ¬ (r2 = r ∧ i2 = i)) : upS S r i v r2 i2 = S r2 i2 := if_neg h
theorem upS_row {S : Nat → Nat → Nat} {r i v r2 : Nat} (h : r2 ≠ r) : upS S r i v r2 = S r2 := by funext i2; exact if_neg (fun q => h q.1)
theorem opn_row {S S1 : Nat → Nat → Nat} (h : S1 9 = S 9) (i : Nat) : opn S1 i = opn S i := by unfold opn; rw [h]
theorem hrs_row {S S1 : Nat → Nat → Nat} (h : S1 9 = S 9) (h5 : S1 5 = S 5) : hrs S1 = hrs S := by unfold hrs; rw [h, h5]
/-- what is known, when a child says a thing otherwise -/
theorem kn_off {sy sy1 : Nat → Nat} {c : Nat} (h : ∀ t, t < 4 → sy1 (c * 4 + t) = sy (c * 4 + t)) : kn sy1 c = kn sy c := by
  unfold kn
  have h0 := h 0 (by decide); have h1 := h 1 (by decide); have h2 := h 2 (by decide); have h3 := h 3 (by decide)
  rw [Nat.add_zero] at h0
  rw [h0, h1, h2, h3]
theorem kn_ext {a b : Nat} (ha : a < 16) (hb : b < 16) (h : ∀ t, t < 4 → a.testBit t = b.testBit t) : a = b := by
  apply Nat.eq_of_testBit_eq
  intro i
  by_cases hi : i < 4
  · exact h i hi
  · have h4 : 2 ^ 4 ≤ 2 ^ i := Nat.pow_le_pow_right (by decide) (by omega : 4 ≤ i)
    rw [Nat.testBit_lt_two_pow (by omega), Nat.testBit_lt_two_pow (by omega)]
theorem or_lt16 {a t : Nat} (ha : a < 16) (ht : t < 4) : a ||| 2 ^ t < 16 := Nat.or_lt_two_pow (n := 4) ha (Nat.pow_lt_pow_right (by decide) ht)
theorem kn_at {S : Nat → Nat → Nat} {c t v : Nat} (ht : t < 4) (hv : v ≤ 97) : kn (upS S 2 (c * 4 + t) v 2) c = if v = 97 then wo (kn (S 2) c) (2 ^ t) else kn (S 2) c ||| 2 ^ t := by
  have h1 := kn_lt (S 2) c
  refine kn_ext (kn_lt _ _) ?_ (fun i hi => ?_)
  · split
    · exact Nat.lt_of_le_of_lt (wo_le _ _) h1
    · exact or_lt16 h1 ht
  · rw [kn_bit _ _ hi]
    by_cases hit : i = t
    · subst hit
      rw [upS_at]
      split
      · rename_i h97
        rw [wo_bit, Nat.testBit_two_pow_self]
        simp [h97]
      · rw [Nat.testBit_or, Nat.testBit_two_pow_self]
        simp; omega
    · rw [upS_off (by omega)]
      split
      · rw [wo_bit, Nat.testBit_two_pow_of_ne (fun q => hit q.symm), kn_bit _ _ hi]; simp
      · rw [Nat.testBit_or, Nat.testBit_two_pow_of_ne (fun q => hit q.symm), kn_bit _ _ hi]; simp
