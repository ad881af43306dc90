/-! counting bits: the JDK's bitCount, the reference's ones -/
def bcE (x : Int32) : Int32 :=
  let x1 := x - ((x.toUInt32 >>> ((nI 1).toUInt32 &&& Int32.toUInt32 31)).toInt32 &&& nI 1431655765)
  let x2 := (x1 &&& nI 858993459) + ((x1.toUInt32 >>> ((nI 2).toUInt32 &&& Int32.toUInt32 31)).toInt32 &&& nI 858993459)
  let x3 := x2 + (x2.toUInt32 >>> ((nI 4).toUInt32 &&& Int32.toUInt32 31)).toInt32 &&& nI 252645135
  let x4 := x3 + (x3.toUInt32 >>> ((nI 8).toUInt32 &&& Int32.toUInt32 31)).toInt32
  let x5 := x4 + (x4.toUInt32 >>> ((nI 16).toUInt32 &&& Int32.toUInt32 31)).toInt32
  x5 &&& nI 63
theorem bc_64 : ∀ i, i < 64 → ∀ j, j < 64 → bcE (nI (64 * i + j)) = nI (pcn (64 * i + j)) := by decide +kernel
theorem bc_ok (a : Nat) (ha : a < 4096) : bcE (nI a) = nI (pcn a) := by
  have h := bc_64 (a / 64) (by omega) (a % 64) (by omega)
  rwa [Nat.div_add_mod] at h
theorem pcn_step : ∀ s, s < 16 → 0 < s → (s &&& (s - 1)) < s ∧ pcn (s &&& (s - 1)) + 1 = pcn s := by decide +kernel
theorem pcn_16 : ∀ s, s < 16 → pcn s ≤ 4 := by decide +kernel
theorem pcn_split : ∀ s, s < 16 → ∀ k, k < 16 → pcn (s &&& k) + pcn (wo s k) = pcn s := by decide +kernel
section BC
variable {d : Nat} {Q : Option Value → ex_H → Prop} {h : ex_H} {lx : Nat} {xs : Nat → Int32} {M : Nat → Nat → Int32} {x y z : Int32} {a b c j k n t q : Nat}
theorem c_bitCount (ha : a < 4096) : Go d 12 0 [some (.int (nI a))] [] h Q = Q (some (.int (nI (pcn a)))) h := by
  rw [← bc_ok a ha]
  simp only [s_12_0, s_12_1, s_12_2, s_12_3, s_12_4, s_12_7, s_12_8, s_12_9, s_12_10, s_12_11, s_12_14, s_12_15, s_12_16, s_12_17, s_12_18, s_12_21, s_12_22, s_12_23, s_12_24, s_12_25, s_12_26, s_12_27, s_12_28, s_12_29, s_12_32, s_12_33, s_12_34, s_12_35, s_12_36, s_12_38, s_12_39, s_12_40, s_12_41, s_12_42, s_12_43, s_12_45, s_12_46, s_12_47, s_12_48, s_12_49, s_12_51, s_12_52]
  rfl
theorem l_X7_ones : ∀ s, s < 16 → ∀ c, Go d 142 4 [some (.int x), some (.int (nI c)), some (.int (nI s))] [] h Q = Q (some (.int (nI (c + pcn s)))) h := by
  intro s
  induction s using Nat.strongRecOn with
  | ind s ih =>
    intro hs c
    rw [s_142_4]
    by_cases h0 : s = 0
    · subst h0
      simp only [s_142_0, s_142_1, s_142_2, s_142_3, s_142_5, s_142_8, s_142_11, s_142_12, s_142_13, s_142_14, s_142_15, s_142_16, s_142_17, s_142_20, s_142_21, ↓reduceIte, n0_0]
      rfl
    · have hp := pcn_step s hs (by omega)
      have e0 : (nI s = 0) = False := by rw [i_e0 (by omega)]; exact eq_false h0
      simp (disch := omega) only [s_142_0, s_142_1, s_142_2, s_142_3, s_142_5, s_142_8, s_142_11, s_142_12, s_142_13, s_142_14, s_142_15, s_142_16, s_142_17, s_142_20, s_142_21, ↓reduceIte, e0, i_sub, i_and, i_add]
      rw [ih _ hp.1 (by omega), ← hp.2]
      congr 4
      omega
theorem c_X7_ones (ha : a < 16) : Go d 142 0 [some (.int (nI a)), none, none] [] h Q = Q (some (.int (nI (pcn a)))) h := by
  rw [s_142_0, s_142_1, s_142_2, s_142_3, l_X7_ones a ha, Nat.zero_add]
end BC
