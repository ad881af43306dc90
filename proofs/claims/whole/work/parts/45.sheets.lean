/-! sheets: small methods -/
theorem m1_l0 : ((-1 : Int32) < 0) = True := by decide
/-- n items from x on lie in a row of z -/
def hold (x y : Int32) (z : Nat) : Bool := decide (0 ≤ x.toInt ∧ 0 ≤ y.toInt ∧ x.toInt + y.toInt ≤ (z : Int))
theorem hold_if {x y : Int32} {z : Nat} (hz : z ≤ 24) : (if x < 0 then nI 0 else if y < 0 then nI 0 else if nI z < y then nI 0 else if nI z - y < x then nI 0 else nI 1) = bI (hold x y z) := by
  unfold hold
  by_cases h1 : x < 0
  · rw [if_pos h1]; rw [x_l0] at h1; rw [decide_eq_false (by omega)]; rfl
  · rw [if_neg h1]
    by_cases h2 : y < 0
    · rw [if_pos h2]; rw [x_l0] at h2; rw [decide_eq_false (by omega)]; rfl
    · rw [if_neg h2]
      obtain ⟨j, hj, rfl⟩ := nI_of h2
      rw [x_l0] at h1
      rw [i_int hj]
      by_cases h3 : nI z < nI j
      · rw [if_pos h3]; rw [i_lt (by omega) hj] at h3; rw [decide_eq_false (by omega)]; rfl
      · rw [if_neg h3]; rw [i_lt (by omega) hj] at h3
        rw [i_sub (by omega)]
        by_cases h4 : nI (z - j) < x
        · rw [if_pos h4]; rw [x_nl x (by omega)] at h4; rw [decide_eq_false (by omega)]; rfl
        · rw [if_neg h4]; rw [x_nl x (by omega)] at h4; rw [decide_eq_true (by omega)]; rfl
def rfz (v : stZ) (l x y : Int32) : Int32 := match v with
  | none => -11
  | some (l0, z, _) => if nI l0 = l then (if hold x y z = true then nI 0 else -13) else -12
def nrw (l : Nat) (x : Int32) : Int32 := if l = 0 then x.toInt8.toInt32 else if l = 1 then x.toInt16.toInt32 else x
theorem sh_b (x : Int32) : (x <<< (nI 24 &&& 31)) >>> (nI 24 &&& 31) = x.toInt8.toInt32 := by
  apply Int32.toBitVec_inj.1
  rw [Int8.toBitVec_toInt32, Int32.toBitVec_toInt8]
  show (x.toBitVec <<< ((nI 24 &&& 31).toBitVec.smod 32)).sshiftRight' ((nI 24 &&& 31).toBitVec.smod 32) = _
  rw [show (nI 24 &&& 31).toBitVec.smod 32 = 24#32 by decide +kernel]
  apply BitVec.eq_of_getLsbD_eq
  intro i hi
  simp only [BitVec.sshiftRight_eq', BitVec.shiftLeft_eq', BitVec.toNat_ofNat, Nat.reducePow, Nat.reduceMod, BitVec.getLsbD_sshiftRight, BitVec.getLsbD_signExtend, BitVec.msb_eq_getLsbD_last, BitVec.getLsbD_shiftLeft, BitVec.getLsbD_setWidth]
  by_cases h : i < 8
  · have h2 : 24 + i - 24 = i := by omega
    have h3 : 24 + i < 32 := by omega
    have h4 : ¬ 24 + i < 24 := by omega
    have h5 : ¬ 32 ≤ i := by omega
    simp [h, hi, h2, h3, h4, h5]
  · have h2 : ¬ 24 + i < 32 := by omega
    simp [h, hi, h2]
theorem sh_s (x : Int32) : (x <<< (nI 16 &&& 31)) >>> (nI 16 &&& 31) = x.toInt16.toInt32 := by
  apply Int32.toBitVec_inj.1
  rw [Int16.toBitVec_toInt32, Int32.toBitVec_toInt16]
  show (x.toBitVec <<< ((nI 16 &&& 31).toBitVec.smod 32)).sshiftRight' ((nI 16 &&& 31).toBitVec.smod 32) = _
  rw [show (nI 16 &&& 31).toBitVec.smod 32 = 16#32 by decide +kernel]
  apply BitVec.eq_of_getLsbD_eq
  intro i hi
  simp only [BitVec.sshiftRight_eq', BitVec.shiftLeft_eq', BitVec.toNat_ofNat, Nat.reducePow, Nat.reduceMod, BitVec.getLsbD_sshiftRight, BitVec.getLsbD_signExtend, BitVec.msb_eq_getLsbD_last, BitVec.getLsbD_shiftLeft, BitVec.getLsbD_setWidth]
  by_cases h : i < 16
  · have h2 : 16 + i - 16 = i := by omega
    have h3 : 16 + i < 32 := by omega
    have h4 : ¬ 16 + i < 16 := by omega
    have h5 : ¬ 32 ≤ i := by omega
    simp [h, hi, h2, h3, h4, h5]
  · have h2 : ¬ 16 + i < 32 := by omega
    simp [h, hi, h2]
/-- places from a on, j of them, as in g -/
def rng (f g : Nat → Int32) (a j : Nat) : Nat → Int32 := fun k => if a ≤ k ∧ k < a + j then g k else f k
theorem rng_0 {f g : Nat → Int32} {a : Nat} : rng f g a 0 = f := by funext k; unfold rng; rw [if_neg (by omega)]
theorem rng_up {f g : Nat → Int32} {a j : Nat} : upd (rng f g a j) (a + j) (g (a + j)) = rng f g a (j + 1) := by
  funext k
  by_cases h : k = a + j
  · subst h; rw [upd_at]; unfold rng; rw [if_pos (by omega)]
  · rw [upd_off h]; unfold rng
    by_cases h2 : a ≤ k ∧ k < a + j
    · rw [if_pos h2, if_pos (by omega)]
    · rw [if_neg h2, if_neg (by omega)]
theorem rng_in {f g : Nat → Int32} {a j k : Nat} (h : a ≤ k ∧ k < a + j) : rng f g a j k = g k := if_pos h
theorem rng_out {f g : Nat → Int32} {a j k : Nat} (h : ¬ (a ≤ k ∧ k < a + j)) : rng f g a j k = f k := if_neg h
def setZ (Z : Nat → stZ) (s : Nat) (v : stZ) : Nat → stZ := fun q => if q = s then v else Z q
section SH
variable {d : Nat} {Q : Option Value → ex_H → Prop} {lx : Nat} {xs : Nat → Int32} {M M1 : Nat → Nat → Int32} {x y z u : Int32} {S K : Nat → Nat → Nat} {hk : Bool} {n : Nat} {T : Nat → Nat} {Z : Nat → stZ} {a b c i j k l r s t w q : Nat} {v : stZ}
theorem WA_set (hA : WA S hk K n T Z) (hv : ∀ l z f, v = some (l, z, f) → l < 3 ∧ z ≤ 24) : WA S hk K n T (setZ Z s v) := by
  obtain ⟨a1, a2, a3, a4, a5⟩ := hA
  refine ⟨a1, a2, a3, a4, fun s2 h2 l z f h => ?_⟩
  unfold setZ at h
  split at h
  · exact hv l z f h
  · exact a5 s2 h2 l z f h
theorem ZC_set (h : ∀ s, s < 4 → ZC M (45 + 2 * s) (Z s)) (e : ∀ c, c ≠ 45 + 2 * s → c ≠ 46 + 2 * s → M1 c = M c) (hv : ZC M1 (45 + 2 * s) v) : ∀ s2, s2 < 4 → ZC M1 (45 + 2 * s2) (setZ Z s v s2) := by
  intro s2 h2
  unfold setZ
  split
  · rename_i e2; rw [e2]; exact hv
  · exact ZC_eq (h s2 h2) (e _ (by omega) (by omega)) (e _ (by omega) (by omega))
theorem ZM_set (h : ∀ s, s < 4 → ZM M s (Z s)) (e2 : ∀ q, q ≠ s → M1 72 q = M 72 q) (e3 : ∀ q, q ≠ s → M1 73 q = M 73 q) (e4 : ∀ k, ¬ (24 * s ≤ k ∧ k < 24 * s + 24) → M1 74 k = M 74 k) (hv : ZM M1 s v) : ∀ s2, s2 < 4 → ZM M1 s2 (setZ Z s v s2) := by
  intro s2 h2
  unfold setZ
  split
  · rename_i e5; rw [e5]; exact hv
  · rename_i hn
    have hh := h s2 h2
    unfold ZM at hh ⊢
    split at hh
    · rw [e2 _ hn]; exact hh
    · exact ⟨by rw [e2 _ hn]; exact hh.1, by rw [e3 _ hn]; exact hh.2.1, fun i hi => by rw [e4 _ (by omega)]; exact hh.2.2 i hi⟩
theorem c_X5_isMissing (hr : r = 45 ∨ r = 47 ∨ r = 49 ∨ r = 51) : Go d 1 0 [some (.ref r)] [] (HP lx xs M) Q = Q (some (.int (bI (decide (M r 1 < 0))))) (HP lx xs M) := by
  rcases hr with rfl | rfl | rfl | rfl <;> simp only [s_1_0, s_1_1_45, s_1_1_47, s_1_1_49, s_1_1_51, s_1_4, s_1_7, s_1_8, s_1_11, s_1_12_0, s_1_12_1, sb_1_12, q_ite, q_10]
theorem c_X5_holds (hr : r = 45 ∨ r = 47 ∨ r = 49 ∨ r = 51) (h1 : M r 1 = nI w) (hw : w ≤ 24) : Go d 2 0 [some (.ref r), some (.int x), some (.int y)] [] (HP lx xs M) Q = Q (some (.int (bI (hold x y w)))) (HP lx xs M) := by
  rw [← hold_if hw]
  rcases hr with rfl | rfl | rfl | rfl <;> simp only [s_2_0, s_2_1, s_2_4, s_2_5, s_2_8, s_2_9, s_2_10_45, s_2_10_47, s_2_10_49, s_2_10_51, s_2_13, s_2_16, s_2_17, s_2_18_45, s_2_18_47, s_2_18_49, s_2_18_51, s_2_21, s_2_22, s_2_23, s_2_26, s_2_27, s_2_30, s_2_31_0, s_2_31_1, sb_2_31, h1, q_ite]
theorem c_X5_refusal (hr : r = 45 ∨ r = 47 ∨ r = 49 ∨ r = 51) (hz : ZC M r v) (hv : ∀ l z f, v = some (l, z, f) → l < 3 ∧ z ≤ 24) : Go (d + 1) 3 0 [some (.ref r), some (.int u), some (.int x), some (.int y)] [] (HP lx xs M) Q = Q (some (.int (rfz v u x y))) (HP lx xs M) := by
  have hm : ∀ d Q, Go d 1 0 [some (.ref r)] [] (HP lx xs M) Q = Q (some (.int (bI (decide (M r 1 < 0))))) (HP lx xs M) := fun d Q => c_X5_isMissing hr
  match v, hz, hv with
  | none, hz, hv =>
    have e : M r 1 = -1 := hz
    rcases hr with rfl | rfl | rfl | rfl <;> simp only [s_3_0, s_3_1_45, s_3_1_47, s_3_1_49, s_3_1_51, s_3_4, s_3_7, s_3_9, s_3_10, s_3_11_45, s_3_11_47, s_3_11_49, s_3_11_51, s_3_14, s_3_15, s_3_18, s_3_20, s_3_21, s_3_22, s_3_23, s_3_24_45, s_3_24_47, s_3_24_49, s_3_24_51, s_3_27, s_3_30, s_3_31, s_3_34, s_3_36, ↓reduceIte, hm, ap_some, e, m1_l0, decide_true, bI_0, Bool.true_eq_false, rfz]
  | some (l0, w, f), hz, hv =>
    obtain ⟨e0, e1, e2⟩ := hz
    obtain ⟨b0, b1⟩ := hv l0 w f rfl
    have hh : ∀ d Q, Go d 2 0 [some (.ref r), some (.int x), some (.int y)] [] (HP lx xs M) Q = Q (some (.int (bI (hold x y w)))) (HP lx xs M) := fun d Q => c_X5_holds hr e1 b1
    have e3 : (nI w < 0) = False := i_l0 (by omega)
    rcases hr with rfl | rfl | rfl | rfl <;> simp only [s_3_0, s_3_1_45, s_3_1_47, s_3_1_49, s_3_1_51, s_3_4, s_3_7, s_3_9, s_3_10, s_3_11_45, s_3_11_47, s_3_11_49, s_3_11_51, s_3_14, s_3_15, s_3_18, s_3_20, s_3_21, s_3_22, s_3_23, s_3_24_45, s_3_24_47, s_3_24_49, s_3_24_51, s_3_27, s_3_30, s_3_31, s_3_34, s_3_36, ↓reduceIte, hm, ap_some, e0, e1, e3, decide_false, bI_0, hh, rfz] <;> (by_cases q1 : nI l0 = u <;> simp only [q1, ↓reduceIte] <;> cases hold x y w <;> simp)
theorem c_X5_put (hr : r = 45 ∨ r = 47 ∨ r = 49 ∨ r = 51) (h0 : M r 0 = nI l) (hl : l < 3) (hi : i < 24) : Go d 6 0 [some (.ref r), some (.int (nI i)), some (.int x)] [] (HP lx xs M) Q = Q none (HP lx xs (up M (r + 1) i (nrw l x))) := by
  rcases hr with rfl | rfl | rfl | rfl <;> rcases (by omega : l = 0 ∨ l = 1 ∨ l = 2) with rfl | rfl | rfl <;> simp (disch := omega) only [s_6_0, s_6_1_45, s_6_1_47, s_6_1_49, s_6_1_51, s_6_4, s_6_7, s_6_8_45, s_6_8_47, s_6_8_49, s_6_8_51, s_6_11, s_6_12, s_6_13, s_6_14_46, s_6_14_48, s_6_14_50, s_6_14_52, s_6_15, s_6_18, s_6_19_45, s_6_19_47, s_6_19_49, s_6_19_51, s_6_22, s_6_23, s_6_26, s_6_27_45, s_6_27_47, s_6_27_49, s_6_27_51, s_6_30, s_6_31, s_6_32, s_6_33_46, s_6_33_48, s_6_33_50, s_6_33_52, s_6_34, s_6_37, s_6_38_45, s_6_38_47, s_6_38_49, s_6_38_51, s_6_41, s_6_42, s_6_43_46, s_6_43_48, s_6_43_50, s_6_43_52, s_6_44, ↓reduceIte, h0, n0_0, n1_0, show (nI 2 = 0) = False by decide, show (nI 2 = nI 1) = False by decide, show (nI 1 = nI 1) = True by decide, i_in, i_cl, true_and, nrw, Nat.reduceAdd, Nat.reduceEqDiff] <;> rfl
theorem c_fill (hr : r = 46 ∨ r = 48 ∨ r = 50 ∨ r = 52) : Go d 13 0 [some (.ref r), some (.int x), none, none] [] (HP lx xs M) Q = Q none (HP lx xs (upr M r (mix (M r) (fun _ => x) 24))) := by
  rcases hr with rfl | rfl | rfl | rfl
  all_goals
    simp only [s_13_0, s_13_1, s_13_2, s_13_3_37, s_13_3_43, s_13_3_46, s_13_3_48, s_13_3_50, s_13_3_52, s_13_4]
  · have l := loopN (fun j => Go d 13 5 [some (.ref 46), some (.int x), some (.int (nI j)), some (.int (nI 24))] [] (HP lx xs (upr M 46 (mix (M 46) (fun _ => x) j))) Q) 24 fun j hj => by
      show Go d _ 5 _ _ _ _ = Go d _ 5 _ _ _ _
      rw [s_13_5]
      simp (disch := omega) only [s_13_6, s_13_7, s_13_10, s_13_11, s_13_12, s_13_13_37, s_13_13_43, s_13_13_46, s_13_13_48, s_13_13_50, s_13_13_52, s_13_14, s_13_17, ↓reduceIte, i_lt, hj, i_in, i_cl, true_and, up_upr, i_add]
      rw [mix_up (g := fun _ => x)]
    try dsimp only at l
    rw [mix_0, upr_self] at l
    rw [l, s_13_5]
    simp (disch := omega) only [s_13_6, s_13_7, s_13_10, s_13_11, s_13_12, s_13_13_37, s_13_13_43, s_13_13_46, s_13_13_48, s_13_13_50, s_13_13_52, s_13_14, s_13_17, s_13_20, ↓reduceIte, i_lt, Nat.lt_irrefl]
  · have l := loopN (fun j => Go d 13 5 [some (.ref 48), some (.int x), some (.int (nI j)), some (.int (nI 24))] [] (HP lx xs (upr M 48 (mix (M 48) (fun _ => x) j))) Q) 24 fun j hj => by
      show Go d _ 5 _ _ _ _ = Go d _ 5 _ _ _ _
      rw [s_13_5]
      simp (disch := omega) only [s_13_6, s_13_7, s_13_10, s_13_11, s_13_12, s_13_13_37, s_13_13_43, s_13_13_46, s_13_13_48, s_13_13_50, s_13_13_52, s_13_14, s_13_17, ↓reduceIte, i_lt, hj, i_in, i_cl, true_and, up_upr, i_add]
      rw [mix_up (g := fun _ => x)]
    try dsimp only at l
    rw [mix_0, upr_self] at l
    rw [l, s_13_5]
    simp (disch := omega) only [s_13_6, s_13_7, s_13_10, s_13_11, s_13_12, s_13_13_37, s_13_13_43, s_13_13_46, s_13_13_48, s_13_13_50, s_13_13_52, s_13_14, s_13_17, s_13_20, ↓reduceIte, i_lt, Nat.lt_irrefl]
  · have l := loopN (fun j => Go d 13 5 [some (.ref 50), some (.int x), some (.int (nI j)), some (.int (nI 24))] [] (HP lx xs (upr M 50 (mix (M 50) (fun _ => x) j))) Q) 24 fun j hj => by
      show Go d _ 5 _ _ _ _ = Go d _ 5 _ _ _ _
      rw [s_13_5]
      simp (disch := omega) only [s_13_6, s_13_7, s_13_10, s_13_11, s_13_12, s_13_13_37, s_13_13_43, s_13_13_46, s_13_13_48, s_13_13_50, s_13_13_52, s_13_14, s_13_17, ↓reduceIte, i_lt, hj, i_in, i_cl, true_and, up_upr, i_add]
      rw [mix_up (g := fun _ => x)]
    try dsimp only at l
    rw [mix_0, upr_self] at l
    rw [l, s_13_5]
    simp (disch := omega) only [s_13_6, s_13_7, s_13_10, s_13_11, s_13_12, s_13_13_37, s_13_13_43, s_13_13_46, s_13_13_48, s_13_13_50, s_13_13_52, s_13_14, s_13_17, s_13_20, ↓reduceIte, i_lt, Nat.lt_irrefl]
  · have l := loopN (fun j => Go d 13 5 [some (.ref 52), some (.int x), some (.int (nI j)), some (.int (nI 24))] [] (HP lx xs (upr M 52 (mix (M 52) (fun _ => x) j))) Q) 24 fun j hj => by
      show Go d _ 5 _ _ _ _ = Go d _ 5 _ _ _ _
      rw [s_13_5]
      simp (disch := omega) only [s_13_6, s_13_7, s_13_10, s_13_11, s_13_12, s_13_13_37, s_13_13_43, s_13_13_46, s_13_13_48, s_13_13_50, s_13_13_52, s_13_14, s_13_17, ↓reduceIte, i_lt, hj, i_in, i_cl, true_and, up_upr, i_add]
      rw [mix_up (g := fun _ => x)]
    try dsimp only at l
    rw [mix_0, upr_self] at l
    rw [l, s_13_5]
    simp (disch := omega) only [s_13_6, s_13_7, s_13_10, s_13_11, s_13_12, s_13_13_37, s_13_13_43, s_13_13_46, s_13_13_48, s_13_13_50, s_13_13_52, s_13_14, s_13_17, s_13_20, ↓reduceIte, i_lt, Nat.lt_irrefl]
theorem c_X5_renew (hr : r = 45 ∨ r = 47 ∨ r = 49 ∨ r = 51) : Go (d + 1) 4 0 [some (.ref r), some (.int x), some (.int y)] [] (HP lx xs M) Q = Q none (HP lx xs (up (up (upr M (r + 1) (mix (M (r + 1)) (fun _ => nI 0) 24)) r 0 x) r 1 y)) := by
  rcases hr with rfl | rfl | rfl | rfl <;> simp (disch := omega) only [s_4_0, s_4_1_45, s_4_1_47, s_4_1_49, s_4_1_51, s_4_4, s_4_5, s_4_8, s_4_9, s_4_10_45, s_4_10_47, s_4_10_49, s_4_10_51, s_4_13, s_4_14, s_4_15_45, s_4_15_47, s_4_15_49, s_4_15_51, s_4_18, c_fill, ap_none, Nat.reduceAdd]
theorem c_X7_lacksRow (hs : s < 4) (hz : ZM M s v) (hv : ∀ l z f, v = some (l, z, f) → l < 3 ∧ z ≤ 24) (hl : l < 3) (hw : w ≤ 24) : Go (d + 1) 166 0 [some (.ref 53), some (.int (nI s)), some (.int (nI l)), some (.int x), some (.int (nI w))] [] (HP lx xs M) Q = Q (some (.int (rfz v (nI l) x (nI w)))) (HP lx xs M) := by
  match v, hz, hv with
  | none, hz, hv =>
    have e : M 72 s = -1 := hz
    have e2 : ((-1 : Int32) = nI l) = False := by
      apply eq_false; intro h
      have := congrArg Int32.toInt h
      rw [i_int (by omega)] at this
      exact absurd this (by show ¬ ((-1 : Int) = l); omega)
    simp (disch := omega) only [s_166_0, s_166_1, s_166_4, s_166_5, s_166_6, s_166_7, s_166_10, s_166_11, s_166_14, s_166_15, s_166_16, s_166_19, s_166_21, s_166_24, s_166_26, s_166_27, s_166_28, s_166_29, s_166_30, s_166_31, s_166_34, s_166_35, s_166_36, s_166_38, s_166_39, s_166_40, s_166_43, s_166_46, s_166_47, s_166_50, s_166_52, ↓reduceIte, i_in, i_cl, true_and, e, e2, m1_l0, rfz]
  | some (l0, z0, f), hz, hv =>
    obtain ⟨e0, e1, e2⟩ := hz
    obtain ⟨b0, b1⟩ := hv l0 z0 f rfl
    have e3 : ((nI z0 - nI w).toInt64).toInt = (z0 : Int) - w := by rw [Int32.toInt_toInt64, pk_sub_toInt (by omega) (by omega)]
    have e4 : decide ((lN 0).toInt ≤ x.toInt64.toInt ∧ x.toInt64.toInt ≤ ((nI z0 - nI w).toInt64).toInt) = hold x (nI w) z0 := by
      unfold hold
      rw [e3, Int32.toInt_toInt64, lN_toInt (by decide : 0 < 2 ^ 31), i_int (by omega)]
      congr 1
      apply propext
      constructor <;> intro h <;> omega
    by_cases q1 : l0 = l
    · subst q1
      simp (disch := omega) only [s_166_0, s_166_1, s_166_4, s_166_5, s_166_6, s_166_7, s_166_10, s_166_11, s_166_14, s_166_15, s_166_16, s_166_19, s_166_21, s_166_24, s_166_26, s_166_27, s_166_28, s_166_29, s_166_30, s_166_31, s_166_34, s_166_35, s_166_36, s_166_38, s_166_39, s_166_40, s_166_43, s_166_46, s_166_47, s_166_50, s_166_52, ↓reduceIte, i_in, i_cl, true_and, e0, e1, c_X7_in, e4, ap_some, bI_0, rfz]
      cases hold x (nI w) z0 <;> simp
    · simp (disch := omega) only [s_166_0, s_166_1, s_166_4, s_166_5, s_166_6, s_166_7, s_166_10, s_166_11, s_166_14, s_166_15, s_166_16, s_166_19, s_166_21, s_166_24, s_166_26, s_166_27, s_166_28, s_166_29, s_166_30, s_166_31, s_166_34, s_166_35, s_166_36, s_166_38, s_166_39, s_166_40, s_166_43, s_166_46, s_166_47, s_166_50, s_166_52, ↓reduceIte, i_in, i_cl, true_and, e0, i_eq, q1, i_l0, rfz]
end SH
