/-! all that is kept: school, image, tape, sheets -/
abbrev stZ : Type := Option (Nat × Nat × (Nat → Int32))
/-- a sheet, in the class at cell r, in the reference as number s -/
def ZC (M : Nat → Nat → Int32) (r : Nat) (v : stZ) : Prop := match v with
  | none => M r 1 = -1
  | some (l, z, f) => M r 0 = nI l ∧ M r 1 = nI z ∧ ∀ i, i < 24 → M (r + 1) i = f i
def ZM (M : Nat → Nat → Int32) (s : Nat) (v : stZ) : Prop := match v with
  | none => M 72 s = -1
  | some (l, z, f) => M 72 s = nI l ∧ M 73 s = nI z ∧ ∀ i, i < 24 → M 74 (24 * s + i) = f i
/-- the reference's image -/
def RepK (M : Nat → Nat → Int32) (K : Nat → Nat → Nat) : Prop := (∀ c, c < 6 → M 71 c = nI (K 1 c)) ∧ (∀ c, c < 6 → M 71 (6 + c) = nI (K 3 c)) ∧ (∀ i, i < 24 → M 71 (12 + i) = nI (K 2 i)) ∧ (∀ t, t < 4 → M 71 (36 + t) = nI (K 4 t)) ∧ (∀ i, i < K 5 0 → M 71 (40 + 4 * i) = nI (K 6 i) ∧ M 71 (40 + (4 * i + 1)) = nI (K 7 i) ∧ M 71 (40 + (4 * i + 2)) = nI (K 8 i) ∧ M 71 (40 + (4 * i + 3)) = nI (K 9 i)) ∧ M 71 136 = nI (K 0 0) ∧ M 71 137 = nI (K 5 0) ∧ M 71 138 = nI (K 0 1) ∧ M 71 139 = nI (K 0 2)
def WA (S : Nat → Nat → Nat) (hk : Bool) (K : Nat → Nat → Nat) (n : Nat) (T : Nat → Nat) (Z : Nat → stZ) : Prop := WF S ∧ (hk = true → WF K) ∧ n ≤ 160 ∧ (∀ i, i < n → 32 ≤ T i ∧ T i ≤ 126) ∧ ∀ s, s < 4 → ∀ l z f, Z s = some (l, z, f) → l < 3 ∧ z ≤ 24
def RepAC (M : Nat → Nat → Int32) (S : Nat → Nat → Nat) (hk : Bool) (K : Nat → Nat → Nat) (n : Nat) (T : Nat → Nat) (Z : Nat → stZ) : Prop := RepC M 2 S ∧ KB M 5 ∧ M 1 6 = bI hk ∧ (hk = true → RepC M 15 K ∧ KB M 18) ∧ M 28 4 = nI n ∧ (∀ i, i < n → M 34 i = nI (T i)) ∧ ∀ s, s < 4 → ZC M (45 + 2 * s) (Z s)
def RepAM (M : Nat → Nat → Int32) (S : Nat → Nat → Nat) (hk : Bool) (K : Nat → Nat → Nat) (n : Nat) (T : Nat → Nat) (Z : Nat → stZ) : Prop := RepM M S ∧ M 53 28 = bI hk ∧ (hk = true → RepK M K) ∧ M 53 10 = nI n ∧ (∀ i, i < n → M 59 i = nI (T i)) ∧ ∀ s, s < 4 → ZM M s (Z s)
/-- a call: class and reference answer alike, and hold the same again -/
def opA (k6 k7 : Nat) (L6 L7 : ex_L) (S : Nat → Nat → Nat) (hk : Bool) (K : Nat → Nat → Nat) (n : Nat) (T : Nat → Nat) (Z : Nat → stZ) : Prop := ∃ (ans : Int32) (S1 : Nat → Nat → Nat) (hk1 : Bool) (K1 : Nat → Nat → Nat) (n1 : Nat) (T1 : Nat → Nat) (Z1 : Nat → stZ), WA S1 hk1 K1 n1 T1 Z1 ∧
  (∀ lx xs M, RepAC M S hk K n T Z → ∃ M1, RepAC M1 S1 hk1 K1 n1 T1 Z1 ∧ (∀ c, 53 ≤ c → M1 c = M c) ∧ ∀ Q, Go 1999 k6 0 L6 [] (HP lx xs M) Q = Q (some (.int ans)) (HP lx xs M1)) ∧
  (∀ lx xs M, RepAM M S hk K n T Z → ∃ M1, RepAM M1 S1 hk1 K1 n1 T1 Z1 ∧ (∀ c, c < 53 → M1 c = M c) ∧ ∀ Q, Go 1999 k7 0 L7 [] (HP lx xs M) Q = Q (some (.int ans)) (HP lx xs M1))
section AL
variable {M M1 : Nat → Nat → Int32} {S S1 K : Nat → Nat → Nat} {hk : Bool} {n n1 : Nat} {T T1 : Nat → Nat} {Z Z1 : Nat → stZ} {k6 k7 : Nat} {L6 L7 : ex_L} {r s : Nat} {v : stZ}
theorem ZC_eq (h : ZC M r v) (h0 : M1 r = M r) (h1 : M1 (r + 1) = M (r + 1)) : ZC M1 r v := by
  unfold ZC at h ⊢
  rw [h0, h1]
  exact h
theorem ZM_eq (h : ZM M s v) (h0 : M1 72 = M 72) (h1 : M1 73 = M 73) (h2 : M1 74 = M 74) : ZM M1 s v := by
  unfold ZM at h ⊢
  rw [h0, h1, h2]
  exact h
theorem RepK_eq (h : RepK M K) (h0 : M1 71 = M 71) : RepK M1 K := by
  unfold RepK at h ⊢
  rw [h0]
  exact h
/-- the class's, with another school, tape, sheets: what the rest needs is that its cells stay -/
theorem RepAC_fr (h : RepAC M S hk K n T Z) (h2 : RepC M1 2 S1) (h5 : KB M1 5) (hf : frC M M1) : RepAC M1 S1 hk K n T Z := by
  obtain ⟨a1, a2, a3, a4, a5, a6, a7⟩ := h
  refine ⟨h2, h5, ?_, fun e => ⟨RepC_eq (a4 e).1 fun c p q => hf c (by unfold prC; omega), fun i hi => by rw [hf 18 (by unfold prC; omega)]; exact (a4 e).2 i hi⟩, ?_, ?_, fun s hs => ZC_eq (a7 s hs) (hf _ (by unfold prC; omega)) (hf _ (by unfold prC; omega))⟩
  · rw [hf 1 (by unfold prC; omega)]; exact a3
  · rw [hf 28 (by unfold prC; omega)]; exact a5
  · rw [hf 34 (by unfold prC; omega)]; exact a6
theorem RepAM_fr (h : RepAM M S hk K n T Z) (h2 : RepM M1 S1) (hf : frM M M1) : RepAM M1 S1 hk K n T Z := by
  obtain ⟨a1, a2, a3, a4, a5, a6⟩ := h
  obtain ⟨f1, f2, f3, f4, f5, f6, f7, f8⟩ := hf
  refine ⟨h2, by rw [f8]; exact a2, fun e => RepK_eq (a3 e) f3, by rw [f7]; exact a4, by rw [f2]; exact a5, fun s hs => ZM_eq (a6 s hs) f4 f5 f6⟩
theorem opS_A (hA : WA S hk K n T Z) (h : opS k6 k7 L6 L7 S) : opA k6 k7 L6 L7 S hk K n T Z := by
  obtain ⟨ans, S1, hW, h6, h7⟩ := h
  refine ⟨ans, S1, hk, K, n, T, Z, ⟨hW, hA.2⟩, fun lx xs M hR => ?_, fun lx xs M hR => ?_⟩
  · obtain ⟨M1, q1, q2, q3, q4⟩ := h6 lx xs M hR.1 hR.2.1
    exact ⟨M1, RepAC_fr hR q1 q2 q3, fun c hc => q3 c (by unfold prC; omega), q4⟩
  · obtain ⟨M1, q1, q3, q4⟩ := h7 lx xs M hR.1
    exact ⟨M1, RepAM_fr hR q1 q3, q3.1, q4⟩
/-- only the class's cells count, and only the reference's -/
theorem RepAC_lt (h : RepAC M S hk K n T Z) (e : ∀ c, c < 53 → M1 c = M c) : RepAC M1 S hk K n T Z := by
  obtain ⟨a1, a2, a3, a4, a5, a6, a7⟩ := h
  refine ⟨RepC_eq a1 fun c p q => e c (by omega), fun i hi => by rw [e 5 (by decide)]; exact a2 i hi, by rw [e 1 (by decide)]; exact a3, fun q => ⟨RepC_eq (a4 q).1 fun c p q => e c (by omega), fun i hi => by rw [e 18 (by decide)]; exact (a4 q).2 i hi⟩, by rw [e 28 (by decide)]; exact a5, by rw [e 34 (by decide)]; exact a6, fun s hs => ZC_eq (a7 s hs) (e _ (by omega)) (e _ (by omega))⟩
theorem RepAM_ge (h : RepAM M S hk K n T Z) (e : ∀ c, 53 ≤ c → M1 c = M c) : RepAM M1 S hk K n T Z := by
  obtain ⟨a1, a2, a3, a4, a5, a6⟩ := h
  refine ⟨RepM_eq a1 (fun j _ _ => by rw [e 53 (by decide)]) (fun c p q => e c (by omega)), by rw [e 53 (by decide)]; exact a2, fun q => RepK_eq (a3 q) (e 71 (by decide)), by rw [e 53 (by decide)]; exact a4, by rw [e 59 (by decide)]; exact a5, fun s hs => ZM_eq (a6 s hs) (e 72 (by decide)) (e 73 (by decide)) (e 74 (by decide))⟩
/-- .. with other sheets -/
theorem RepAC_Z (h : RepAC M S hk K n T Z) (e : ∀ c, c < 45 ∨ 52 < c → M1 c = M c) (hz : ∀ s, s < 4 → ZC M1 (45 + 2 * s) (Z1 s)) : RepAC M1 S hk K n T Z1 := by
  obtain ⟨a1, a2, a3, a4, a5, a6, a7⟩ := h
  exact ⟨RepC_eq a1 fun c p q => e c (by omega), fun i hi => by rw [e 5 (by decide)]; exact a2 i hi, by rw [e 1 (by decide)]; exact a3, fun q => ⟨RepC_eq (a4 q).1 fun c p q => e c (by omega), fun i hi => by rw [e 18 (by decide)]; exact (a4 q).2 i hi⟩, by rw [e 28 (by decide)]; exact a5, by rw [e 34 (by decide)]; exact a6, hz⟩
theorem RepAM_Z (h : RepAM M S hk K n T Z) (e : ∀ c, c < 72 → M1 c = M c) (hz : ∀ s, s < 4 → ZM M1 s (Z1 s)) : RepAM M1 S hk K n T Z1 := by
  obtain ⟨a1, a2, a3, a4, a5, a6⟩ := h
  exact ⟨RepM_eq a1 (fun j _ _ => by rw [e 53 (by decide)]) (fun c p q => e c (by omega)), by rw [e 53 (by decide)]; exact a2, fun q => RepK_eq (a3 q) (e 71 (by decide)), by rw [e 53 (by decide)]; exact a4, by rw [e 59 (by decide)]; exact a5, hz⟩
theorem opA_same (ans : Int32) (hA : WA S hk K n T Z) (h6 : ∀ lx xs M, RepAC M S hk K n T Z → ∀ Q, Go 1999 k6 0 L6 [] (HP lx xs M) Q = Q (some (.int ans)) (HP lx xs M)) (h7 : ∀ lx xs M, RepAM M S hk K n T Z → ∀ Q, Go 1999 k7 0 L7 [] (HP lx xs M) Q = Q (some (.int ans)) (HP lx xs M)) : opA k6 k7 L6 L7 S hk K n T Z :=
  ⟨ans, S, hk, K, n, T, Z, hA, fun lx xs M h => ⟨M, h, fun _ _ => rfl, h6 lx xs M h⟩, fun lx xs M h => ⟨M, h, fun _ _ => rfl, h7 lx xs M h⟩⟩
end AL
