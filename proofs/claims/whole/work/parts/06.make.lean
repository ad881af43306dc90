/-! rows that make cells, copy rows of numbers, and Object's constructor -/
section EXN
variable {p : Program} {l : Launch} {e : Env} {R : Room} {s : State} {m : MethodId} {args : Array Value} {below : List Frame} {meth : Method} {c : Code} {H : Heap} {locs : List Loc} {cells slots : Nat} {Q : State → Prop}
variable {pc : Nat} {ls : Array Slot} {D : va_G} {ca : Nat → ClassId} {b b0 n0 z0 Lx : Nat} {xs : Nat → Int32} {nw : List Cond} {M : ex_M} {st st' : List Value} {h h' : ex_H}
/-- a new cell's address is the next one -/
theorem ex_next (hH : ex_Hs D ca b b0 n0 z0 s H locs cells slots h) {q : Nat} {y : va_E} {H1 : Heap} (hP : va_P D vwCl (ex_w (ex_g b b0) ca h ++ [(q, y)]) H1) (hD : va_D (fun q => b0 < q) (ex_w (ex_g b b0) ca h ++ [(q, y)])) (hz : H1.size ≤ s.heap.size + (cells + 1)) : q = ex_g b b0 h.length := by
  obtain ⟨-, -, a1, a2, a3, a4⟩ := hH
  have hw : (ex_w (ex_g b b0) ca h).length = h.length - 1 := by unfold ex_w; simp
  have hq : (ex_w (ex_g b b0) ca h ++ [(q, y)])[h.length - 1]? = some (q, y) := by
    rw [List.getElem?_append_right (by omega), hw, Nat.sub_self]; rfl
  have h1 : q < H1.size := (hP _ _ hq).lt
  have h2 : b0 < q := hD.2 _ _ hq
  have h3 : b0 + h.length ≤ q := by
    refine Nat.not_lt.mp fun hlt => ?_
    obtain ⟨x, hx⟩ : ∃ x, h[q - b0]? = some x := ⟨_, List.getElem?_eq_getElem (by omega)⟩
    have h4 : (ex_w (ex_g b b0) ca h ++ [(q, y)])[q - b0 - 1]? = some (ex_g b b0 (q - b0), ex_e (ex_g b b0) ca x) := by
      rw [List.getElem?_append_left (by omega)]
      exact ex_w_at (by omega) hx
    have h5 := hD.1 _ _ _ _ h4 hq (by show ex_g b b0 (q - b0) = q; unfold ex_g; rw [if_neg (by omega)]; omega)
    omega
  unfold ex_g
  rw [if_neg (by omega)]
  omega
theorem ex_Hs.push (hH : ex_Hs D ca b b0 n0 z0 s H locs cells slots h) {x : ex_E} {q : Nat} {y : va_E} {H1 : Heap} {locs1 : List Loc} {k : Nat} (hP : va_P D vwCl (ex_w (ex_g b b0) ca h ++ [(q, y)]) H1) (hD : va_D (fun q => b0 < q) (ex_w (ex_g b b0) ca h ++ [(q, y)])) (hS : va_S (fun q => b0 < q) s.heap H1 locs1) (hz : H1.size ≤ s.heap.size + (cells + 1)) (hy : y = ex_e (ex_g b b0) ca x) (hk : ex_sz x = k) : ex_Hs D ca b b0 n0 z0 s H1 locs1 (cells + 1) (slots + k) (h ++ [x]) := by
  have e1 := ex_next hH hP hD hz
  obtain ⟨-, -, a1, a2, a3, a4⟩ := hH
  subst hy
  subst hk
  subst e1
  rw [← ex_w_push x (by omega)] at hP
  exact ⟨hP, hS, a1, a2, by simp; omega, by rw [ex_hs_push]; omega⟩
theorem ex_new_ok (C : ex_Cx p s m args meth c D ca b b0 Lx xs nw M) (hH : ex_Hs D ca b b0 n0 z0 s H locs cells slots h) (hin : ∀ ci, ci < 8 → ∀ w ∈ u_ws (ex_RC ci) (ex_TC ci) (ex_nF ci), w ∈ ex_tbl) {i : Nat} {E : ex_I} (ho : Cond.classLink M.1 i (ex_RC E.2.1) ∈ ex_tbl ∧ Cond.instantiable (ex_RC E.2.1) (ex_nF E.2.1) ∈ ex_tbl ∧ Cond.initialized (ex_RC E.2.1) ∈ ex_tbl) (hs : ex_new E st h = some (st', h')) (hd : decode M.2.2.1 pc = .ok (.new i, 3)) (hr : cells + n0 + R.cells ≥ 0 ∧ h'.length ≤ R.cells + n0 ∧ ex_hs h' ≤ R.slots + z0)
    (kk : ∀ H' locs' cells' slots', ex_Hs D ca b b0 n0 z0 s H' locs' cells' slots' h' → W p l e R s m args below meth c H' locs' cells' slots' Q (F0 m (pc + 3) ls (st'.map (ex_v (ex_g b b0))))) : W p l e R s m args below meth c H locs cells slots Q (F0 m pc ls (st.map (ex_v (ex_g b b0)))) := by
  obtain ⟨hx, hb, hml, hown, hts, hin0, hK, hnw, hAO, hX, hb1, hb2⟩ := C
  unfold ex_new at hs
  split at hs
  · rename_i hlt
    cases hs
    have a3 := hH.2.2.2.2.1
    have a4 := hH.2.2.2.2.2
    have hA : ∀ q, s.heap.size ≤ q → b0 < q := fun q hq => Nat.lt_of_lt_of_le hb2 hq
    have hr1 : cells + 1 ≤ R.cells := by have := hr.2.1; simp at this; omega
    have hr2 : slots + ex_nF E.2.1 ≤ R.slots := by have := hr.2.2; rw [ex_hs_push] at this; have e9 : ex_sz (.inr (.inr (E.2.1, ex_df E.2.1)) : ex_E) = ex_nF E.2.1 := rfl; rw [e9] at this; omega
    refine va_new (D := D) (ci := E.2.1) (fs := (ex_df E.2.1).map (ex_v (ex_g b b0))) (C := ex_RC E.2.1) (T := ex_TC E.2.1) (N := ex_nF E.2.1) (A := fun q => b0 < q) hx hb hts (hin _ hlt) (ex_tyF E.2.1) (ex_ty_ok E.2.1) hown (hts _ ho.1) (hts _ ho.2.1) (hts _ ho.2.2) hK hH.1 (ex_w_D b b0 ca h) hH.2.1 hA (ex_cl_ok hlt) (fun j hj => ?_) hr1 hr2 hd (fun q H1 hP1 hD1 hS1 => ?_)
    · have e1 : ∀ t : FieldType, ex_v (ex_g b b0) (defaultValue t) = defaultValue t := fun t => by cases t <;> rfl
      have e2 : ((ex_df E.2.1).map (ex_v (ex_g b b0))).getD j .null = defaultValue (ex_tyF E.2.1 j) := by
        unfold ex_df
        simp [List.getD_eq_getElem?_getD, hj, e1]
      exact e2.symm
    · refine ex_size fun hz => ?_
      have e3 := ex_next hH hP1 hD1 hz
      have h4 := hH.push (x := .inr (.inr (E.2.1, ex_df E.2.1))) hP1 hD1 hS1 hz rfl rfl
      subst e3
      exact kk _ _ _ _ h4
  · cases hs
theorem ex_nar_ok (C : ex_Cx p s m args meth c D ca b b0 Lx xs nw M) (hH : ex_Hs D ca b b0 n0 z0 s H locs cells slots h) {t : ArrayType} (ho : Cond.arrayClass .int ∈ ex_tbl ∧ Cond.arrayClass .byte ∈ ex_tbl ∧ Cond.arrayClass .boolean ∈ ex_tbl) (hs : ex_nar t st h = some (st', h')) (hd : decode M.2.2.1 pc = .ok (.newarray t, 2)) (hr : h'.length ≤ R.cells + n0 ∧ ex_hs h' ≤ R.slots + z0)
    (kk : ∀ H' locs' cells' slots', ex_Hs D ca b b0 n0 z0 s H' locs' cells' slots' h' → W p l e R s m args below meth c H' locs' cells' slots' Q (F0 m (pc + 2) ls (st'.map (ex_v (ex_g b b0))))) : W p l e R s m args below meth c H locs cells slots Q (F0 m pc ls (st.map (ex_v (ex_g b b0)))) := by
  obtain ⟨hx, hb, hml, hown, hts, hin0, hK, hnw, hAO, hX, hb1, hb2⟩ := C
  unfold ex_nar at hs
  split at hs
  · rename_i n st0
    split at hs
    · rename_i k hk
      split at hs
      · rename_i hn
        cases hs
        have a3 := hH.2.2.2.2.1
        have a4 := hH.2.2.2.2.2
        have hA : ∀ q, s.heap.size ≤ q → b0 < q := fun q hq => Nat.lt_of_lt_of_le hb2 hq
        have hr1 : cells + 1 ≤ R.cells := by have := hr.1; simp at this; omega
        have hr2 : slots + n.toNatClampNeg ≤ R.slots := by have := hr.2; rw [ex_hs_push] at this; have e9 : ex_sz (.inl (k, n.toNatClampNeg, fun _ => 0) : ex_E) = n.toNatClampNeg := rfl; rw [e9] at this; omega
        have go : ∀ (ty : FieldType), newarray.typeOf t = ty → (ex_tys ca)[k]? = some (ca k, ty) → (∀ cA : ClassId, vp_cell cA (n.toNatClampNeg, .inl (fun _ => 0)) = arrV cA n.toNatClampNeg (fun _ => defaultValue ty)) → (Cond.arrayClass (newarray.typeOf t)).before args s = true → n.toNatClampNeg * componentBytes ty ≤ 536870912 → (∀ cA, va_RA s cA ty → va_RA s (ca k) ty → cA = ca k) → W p l e R s m args below meth c H locs cells slots Q (F0 m pc ls ((Value.int n :: st0).map (ex_v (ex_g b b0)))) := by
          intro ty hty htk hcell hword hbytes hsame
          refine va_newa (A := fun q => b0 < q) hx hb hword hty hK hH.1 (ex_w_D b b0 ca h) hH.2.1 hA hcell hn.1 rfl hbytes hr1 hr2 hd (fun q cA H1 hK1 hP1 hD1 hS1 => ?_)
          refine ex_size fun hz => ?_
          have e3 := ex_next hH hP1 hD1 hz
          have hA1 := (hK1.2 4 (cA, ty) rfl).2
          have hA2 := (hK.2 k _ htk).2
          have e4 : cA = ca k := hsame cA hA1 hA2
          subst e4
          have h4 := hH.push (x := .inl (k, n.toNatClampNeg, fun _ => 0)) hP1 hD1 hS1 hz rfl rfl
          subst e3
          exact kk _ _ _ _ h4
        have fin : ∀ ty : FieldType, (∀ cA, va_RA s cA ty → s.vm.findClass ("[" ++ ty.toString) = some cA) → ∀ cA, va_RA s cA ty → va_RA s (ca k) ty → cA = ca k := fun ty hf cA q1 q2 => Option.some.inj ((hf _ q1).symm.trans (hf _ q2))
        have hn2 := hn.2
        cases t <;> unfold ex_ar at hk <;> first | (cases hk; done) | skip
        · cases hk
          exact go .boolean rfl rfl (fun _ => rfl) (hts _ ho.2.2) (by show _ * 1 ≤ _; omega) (fin _ (fun _ q => q))
        · cases hk
          exact go .byte rfl rfl (fun _ => rfl) (hts _ ho.2.1) (by show _ * 1 ≤ _; omega) (fin _ (fun _ q => q))
        · cases hk
          exact go .int rfl rfl (fun _ => rfl) (hts _ ho.1) (by show _ * 4 ≤ _; omega) (fin _ (fun _ q => q))
      · cases hs
    · cases hs
  · cases hs
theorem ex_nqr_ok (C : ex_Cx p s m args meth c D ca b b0 Lx xs nw M) (hH : ex_Hs D ca b b0 n0 z0 s H locs cells slots h) {i : Nat} (ho : Cond.classLink M.1 i RX5 ∈ ex_tbl) (hs : ex_nqr st h = some (st', h')) (hd : decode M.2.2.1 pc = .ok (.anewarray i, 3)) (hr : h'.length ≤ R.cells + n0 ∧ ex_hs h' ≤ R.slots + z0)
    (kk : ∀ H' locs' cells' slots', ex_Hs D ca b b0 n0 z0 s H' locs' cells' slots' h' → W p l e R s m args below meth c H' locs' cells' slots' Q (F0 m (pc + 3) ls (st'.map (ex_v (ex_g b b0))))) : W p l e R s m args below meth c H locs cells slots Q (F0 m pc ls (st.map (ex_v (ex_g b b0)))) := by
  obtain ⟨hx, hb, hml, hown, hts, hin0, hK, hnw, hAO, hX, hb1, hb2⟩ := C
  unfold ex_nqr at hs
  split at hs
  · rename_i n st0
    split at hs
    · rename_i hn
      cases hs
      have a3 := hH.2.2.2.2.1
      have a4 := hH.2.2.2.2.2
      have hA : ∀ q, s.heap.size ≤ q → b0 < q := fun q hq => Nat.lt_of_lt_of_le hb2 hq
      have hr1 : cells + 1 ≤ R.cells := by have := hr.1; simp at this; omega
      have hr2 : slots + n.toNatClampNeg ≤ R.slots := by have := hr.2; rw [ex_hs_push] at this; have e9 : ex_sz (.inr (.inl (n.toNatClampNeg, fun _ => none)) : ex_E) = n.toNatClampNeg := rfl; rw [e9] at this; omega
      refine va_newq (A := fun q => b0 < q) hx hb hown (hts _ ho) hAO hK hH.1 (ex_w_D b b0 ca h) hH.2.1 hA hn.1 rfl (by omega) hr1 hr2 hd (fun q cA H1 hK1 hP1 hD1 hS1 => ?_)
      refine ex_size fun hz => ?_
      have e3 := ex_next hH hP1 hD1 hz
      have hA1 : va_RA s cA (.object RX5) := (hK1.2 4 (cA, .object RX5) rfl).2
      have hA2 : va_RA s (ca 3) (.object RX5) := (hK.2 3 _ rfl).2
      obtain ⟨_, _, _, _, _, f1⟩ := hA1
      obtain ⟨_, _, _, _, _, f2⟩ := hA2
      have e4 : cA = ca 3 := Option.some.inj (f1.symm.trans f2)
      subst e4
      have h4 := hH.push (x := .inr (.inl (n.toNatClampNeg, fun _ => none))) hP1 hD1 hS1 hz rfl rfl
      subst e3
      exact kk _ _ _ _ h4
    · cases hs
  · cases hs
end EXN
