/-! the heap's rows of the pure machine -/
def ex_tbl : List Cond := lw_tbl.filter goodWord
theorem ex_tbl_of {w : Cond} (h : w ∈ lw_tbl) (hg : goodWord w = true) : w ∈ ex_tbl := List.mem_filter.mpr ⟨h, hg⟩
theorem ex_tb {w : Cond} (i : Nat) (h : tables_1[i]? = some w) (hg : goodWord w = true) : w ∈ ex_tbl := ex_tbl_of (List.mem_append_right _ (List.mem_of_getElem? h)) hg
def ex_tys (ca : Nat → ClassId) : List (ClassId × FieldType) := [(ca 0, .int), (ca 1, .byte), (ca 2, .boolean), (ca 3, .object RX5)]
def ex_RC (ci : Nat) : String := match ci with
  | 0 => RX0 | 1 => RX1 | 2 => RX2 | 3 => RX3 | 4 => RX4 | 5 => RX5 | 6 => RX6 | _ => RX7
def ex_TC (ci : Nat) : u_T := match ci with
  | 0 => TX0 | 1 => TX1 | 2 => TX2 | 3 => TX3 | 4 => TX4 | 5 => TX5 | 6 => TX6 | _ => TX7
theorem ex_ty_ok (ci : Nat) : ∀ k, k < ex_nF ci → parseFieldDescriptor (ex_TC ci k).2.2.1 = some (ex_tyF ci k) := by
  match ci with
  | 0 => exact tyX0_ok | 1 => exact tyX1_ok | 2 => exact tyX2_ok | 3 => exact tyX3_ok | 4 => exact tyX4_ok | 5 => exact tyX5_ok | 6 => exact tyX6_ok | n + 7 => exact tyX7_ok
theorem ex_nm_ok (ci : Nat) : ∀ a, a < ex_nF ci → ∀ b, b < ex_nF ci → a ≠ b → (ex_TC ci a).2.1 ≠ (ex_TC ci b).2.1 := by
  match ci with
  | 0 => exact nmX0 | 1 => exact nmX1 | 2 => exact nmX2 | 3 => exact nmX3 | 4 => exact nmX4 | 5 => exact nmX5 | 6 => exact nmX6 | n + 7 => exact nmX7
theorem ex_cl_ok {ci : Nat} (h : ci < 8) : vwCl[ci]? = some (ex_RC ci, ex_TC ci, ex_nF ci) := by
  match ci, h with
  | 0, _ => rfl | 1, _ => rfl | 2, _ => rfl | 3, _ => rfl | 4, _ => rfl | 5, _ => rfl | 6, _ => rfl | 7, _ => rfl | n + 8, h => exact absurd h (by omega)
/-- what a field's instruction needs of the tables: own class, number in its pool, class, field -/
def ex_okf (own : String) (i ci k : Nat) : Prop := ci < 8 ∧ k < ex_nF ci ∧ Cond.fieldLink own i (ex_TC ci k).1 (ex_TC ci k).2.1 (ex_TC ci k).2.2.1 ∈ ex_tbl
def ex_okt (own name : String) (ci k : Nat) (t : Int) : Prop := (t = 0 ∧ ex_tyF ci k = .int ∧ (ex_TC ci k).2.2.2 = false) ∨ (t = 1 ∧ ex_tyF ci k = .boolean ∧ (ex_TC ci k).2.2.2 = false) ∨ (t = 2 ∧ ((∃ n, ex_tyF ci k = .object n) ∨ ∃ n, ex_tyF ci k = .array n) ∧ (ex_TC ci k).2.2.2 = true ∧ name = "<init>" ∧ (ex_TC ci k).1 = own)
/-- what stays through a method -/
def ex_Cx (p : Program) (s : State) (m : MethodId) (args : Array Value) (meth : Method) (c : Code) (D : va_G) (ca : Nat → ClassId) (b b0 Lx : Nat) (xs : Nat → Int32) (nw : List Cond) (M : ex_M) : Prop :=
  p.tables.exec = Jvm.exec ∧ c.code = M.2.2.1 ∧ c.maxLocals = M.2.2.2.1 ∧ s.vm.findClass M.1 = some m.cls ∧ (∀ w ∈ ex_tbl, w.before args s = true) ∧ (M.2.1.name = "<init>" → meth.name = "<init>") ∧ va_K D vwCl (ex_tys ca) s ∧ (∀ w ∈ nw, va_Nw w s) ∧ va_AO RX5 s ∧ va_X b Lx xs s s.heap ∧ b ≤ b0 ∧ b0 < s.heap.size
/-- how the heap stands -/
def ex_Hs (D : va_G) (ca : Nat → ClassId) (b b0 n0 z0 : Nat) (s : State) (H : Heap) (locs : List Loc) (cells slots : Nat) (h : ex_H) : Prop :=
  va_P D vwCl (ex_w (ex_g b b0) ca h) H ∧ va_S (fun q => b0 < q) s.heap H locs ∧ s.heap.size = b0 + n0 ∧ 1 ≤ n0 ∧ cells + n0 = h.length ∧ slots + z0 = ex_hs h
theorem ex_hs_set {h : ex_H} {k : Nat} {x y : ex_E} (hx : h[k]? = some x) (hs : ex_sz y = ex_sz x) : ex_hs (h.set k y) = ex_hs h := by
  unfold ex_hs
  rw [List.map_set, hs]
  congr 1
  refine List.ext_getElem? fun i => ?_
  rw [List.getElem?_set]
  by_cases hk : k = i
  · subst hk
    rw [if_pos rfl]
    split
    · rw [List.getElem?_map, hx]; rfl
    · rename_i h1
      rw [List.getElem?_eq_none (by omega)]
  · rw [if_neg hk]
theorem ex_hs_push (h : ex_H) (x : ex_E) : ex_hs (h ++ [x]) = ex_hs h + ex_sz x := by
  unfold ex_hs
  simp
section EXH
variable {p : Program} {l : Launch} {e : Env} {R : Room} {s : State} {m : MethodId} {args : Array Value} {below : List Frame} {meth : Method} {c : Code} {H : Heap} {locs : List Loc} {cells slots : Nat} {Q : State → Prop}
variable {pc : Nat} {ls : Array Slot} {D : va_G} {ca : Nat → ClassId} {b b0 n0 z0 Lx : Nat} {xs : Nat → Int32} {nw : List Cond} {M : ex_M} {st st' : List Value} {h h' : ex_H}
theorem ex_size {g : JFrame} (kk : H.size ≤ s.heap.size + cells → W p l e R s m args below meth c H locs cells slots Q g) : W p l e R s m args below meth c H locs cells slots Q g := by
  intro T hT X
  refine kk ?_ T hT X
  have h1 : T.heap.size ≤ s.heap.size + cells := X.same.2.2.1
  rw [← hT]
  exact h1
theorem ex_Hs.size (h1 : ex_Hs D ca b b0 n0 z0 s H locs cells slots h) (h2 : H.size ≤ s.heap.size + cells) : H.size = b0 + h.length := by
  obtain ⟨hP, hS, a1, a2, a3, a4⟩ := h1
  have h3 : s.heap.size ≤ H.size := hS.1
  by_cases hn : h.length = n0
  · omega
  · obtain ⟨x, hx⟩ : ∃ x, h[h.length - 1]? = some x := ⟨_, List.getElem?_eq_getElem (by omega)⟩
    have h4 := hP _ _ (ex_w_at (g := ex_g b b0) (ca := ca) (k := h.length - 1) (by omega) hx)
    have h5 := h4.lt
    have h6 : ex_g b b0 (h.length - 1) < H.size := h5
    unfold ex_g at h6
    rw [if_neg (by omega)] at h6
    omega
theorem ex_Hs.set {H1 : Heap} {locs1 : List Loc} {k : Nat} {x y : ex_E} (h1 : ex_Hs D ca b b0 n0 z0 s H locs cells slots h) (hk : k ≠ 0) (hx : h[k]? = some x) (hs : ex_sz y = ex_sz x)
    (hP : va_P D vwCl ((ex_w (ex_g b b0) ca h).set (k - 1) (ex_g b b0 k, ex_e (ex_g b b0) ca y)) H1) (hS : va_S (fun q => b0 < q) s.heap H1 locs1) : ex_Hs D ca b b0 n0 z0 s H1 locs1 cells slots (h.set k y) := by
  obtain ⟨-, -, a1, a2, a3, a4⟩ := h1
  rw [ex_w_set y hk] at hP
  exact ⟨hP, hS, a1, a2, by rw [List.length_set]; exact a3, by rw [ex_hs_set hx hs]; exact a4⟩
theorem ex_in_vp {i : Int32} {n : Nat} (h : ex_in i n = true) : vp_in i n := by
  unfold ex_in at h
  unfold vp_in
  exact of_decide_eq_true h
theorem ex_getf_ok (C : ex_Cx p s m args meth c D ca b b0 Lx xs nw M) (hH : ex_Hs D ca b b0 n0 z0 s H locs cells slots h) (hin : ∀ ci, ci < 8 → ∀ w ∈ u_ws (ex_RC ci) (ex_TC ci) (ex_nF ci), w ∈ ex_tbl) {i : Nat} {E : ex_I} (ho : ex_okf M.1 i E.2.1 E.2.2.1) (hs : ex_getf E st h = some (st', h')) (hd : decode M.2.2.1 pc = .ok (.getfield i, 3))
    (kk : ex_Hs D ca b b0 n0 z0 s H locs cells slots h' → W p l e R s m args below meth c H locs cells slots Q (F0 m (pc + 3) ls (st'.map (ex_v (ex_g b b0))))) : W p l e R s m args below meth c H locs cells slots Q (F0 m pc ls (st.map (ex_v (ex_g b b0)))) := by
  unfold ex_getf at hs
  split at hs
  · rename_i c0 st0
    split at hs
    · rename_i ci fs hc
      split at hs
      · cases hs
      · rename_i hn
        split at hs
        · rename_i v hv
          cases hs
          have hn1 : c0 ≠ 0 := fun q => hn (Or.inl q)
          have hn2 : ci = E.2.1 := Decidable.byContradiction fun q => hn (Or.inr q)
          subst hn2
          obtain ⟨o1, o2, o3⟩ := ho
          obtain ⟨hx, hb, hml, hown, hts, hin0, hK, hnw, hAO, hX, hb1, hb2⟩ := C
          exact va_get (D := D) (ci := E.2.1) (v := ex_v (ex_g b b0) v) (C := ex_RC E.2.1) (T := ex_TC E.2.1) (N := ex_nF E.2.1) hx hb hts (hin _ o1) hown hK hH.1 (c0 - 1) (ex_w_at hn1 hc) (ex_cl_ok o1) E.2.2.1 o2 (hts _ o3) (fun _ h9 => h9) (by rw [List.getElem?_map, hv]; rfl) hd (kk hH)
        · cases hs
    · cases hs
  · cases hs
theorem ex_putf_ok (C : ex_Cx p s m args meth c D ca b b0 Lx xs nw M) (hH : ex_Hs D ca b b0 n0 z0 s H locs cells slots h) (hin : ∀ ci, ci < 8 → ∀ w ∈ u_ws (ex_RC ci) (ex_TC ci) (ex_nF ci), w ∈ ex_tbl) {i : Nat} {E : ex_I} (ho : ex_okf M.1 i E.2.1 E.2.2.1) (ht : ex_okt M.1 M.2.1.name E.2.1 E.2.2.1 E.2.2.2) (hs : ex_putf E st h = some (st', h')) (hd : decode M.2.2.1 pc = .ok (.putfield i, 3))
    (kk : ∀ H' locs', ex_Hs D ca b b0 n0 z0 s H' locs' cells slots h' → W p l e R s m args below meth c H' locs' cells slots Q (F0 m (pc + 3) ls (st'.map (ex_v (ex_g b b0))))) : W p l e R s m args below meth c H locs cells slots Q (F0 m pc ls (st.map (ex_v (ex_g b b0)))) := by
  unfold ex_putf at hs
  split at hs
  · rename_i v c0 st0
    split at hs
    · rename_i ci fs hc
      split at hs
      · cases hs
      · rename_i hn
        cases hs
        have hn1 : c0 ≠ 0 := fun q => hn (Or.inl q)
        have hn2 : ci = E.2.1 := Decidable.byContradiction fun q => hn (Or.inr (Or.inl q))
        have hn3 : E.2.2.1 < fs.length := Nat.not_le.mp fun q => hn (Or.inr (Or.inr (Or.inl q)))
        have hn4 : ex_fit E.2.2.2 v = true := Bool.of_not_eq_false fun q => hn (Or.inr (Or.inr (Or.inr q)))
        subst hn2
        obtain ⟨o1, o2, o3⟩ := ho
        obtain ⟨hx, hb, hml, hown, hts, hin0, hK, hnw, hAO, hX, hb1, hb2⟩ := C
        have hl : E.2.2.1 < (fs.map (ex_v (ex_g b b0))).length := by rw [List.length_map]; exact hn3
        have kk2 : ∀ (H1 : Heap) (locs1 : List Loc), va_P D vwCl ((ex_w (ex_g b b0) ca h).set (c0 - 1) (ex_g b b0 c0, .inr (E.2.1, (fs.map (ex_v (ex_g b b0))).set E.2.2.1 (ex_v (ex_g b b0) v)))) H1 → va_D (fun q => b0 < q) ((ex_w (ex_g b b0) ca h).set (c0 - 1) (ex_g b b0 c0, .inr (E.2.1, (fs.map (ex_v (ex_g b b0))).set E.2.2.1 (ex_v (ex_g b b0) v)))) → va_S (fun q => b0 < q) s.heap H1 locs1 → W p l e R s m args below meth c H1 locs1 cells slots Q (F0 m (pc + 3) ls (st'.map (ex_v (ex_g b b0)))) := by
          intro H1 locs1 hP1 hD1 hS1
          refine kk H1 locs1 (hH.set hn1 hc (y := .inr (.inr (E.2.1, fs.set E.2.2.1 v))) rfl ?_ hS1)
          rw [← List.map_set] at hP1
          exact hP1
        rcases ht with ⟨t1, t2, t3⟩ | ⟨t1, t2, t3⟩ | ⟨t1, t2, t3, t4, t5⟩
        · have hd2 := ex_ty_ok E.2.1 _ o2
          rw [t2] at hd2
          have hv : narrow .int (ex_v (ex_g b b0) v) = ex_v (ex_g b b0) v ∧ fits .int (ex_v (ex_g b b0) v) = true := by
            unfold ex_fit at hn4
            split at hn4
            · exact ⟨rfl, rfl⟩
            · rw [t1] at hn4; exact absurd hn4 (by decide)
            · cases hn4
          exact va_put (D := D) (ci := E.2.1) (v := ex_v (ex_g b b0) v) (ty := .int) (C := ex_RC E.2.1) (T := ex_TC E.2.1) (N := ex_nF E.2.1) hx hb hts (hin _ o1) (ex_tyF E.2.1) (ex_ty_ok E.2.1) (ex_nm_ok E.2.1) hown hK hH.1 (ex_w_D b b0 ca h) hH.2.1 (c0 - 1) (ex_w_at hn1 hc) (ex_cl_ok o1) E.2.2.1 o2 (hts _ o3) (fun _ h9 => h9) t3 hd2 hv.1 hv.2 hl hd kk2
        · have hd2 := ex_ty_ok E.2.1 _ o2
          rw [t2] at hd2
          have hv : narrow .boolean (ex_v (ex_g b b0) v) = ex_v (ex_g b b0) v ∧ fits .boolean (ex_v (ex_g b b0) v) = true := by
            unfold ex_fit at hn4
            split at hn4
            · rename_i x
              rw [t1] at hn4
              have hx01 : x = 0 ∨ x = 1 := by simpa using hn4
              rcases hx01 with rfl | rfl <;> exact ⟨rfl, rfl⟩
            · rw [t1] at hn4; exact absurd hn4 (by decide)
            · cases hn4
          exact va_put (D := D) (ci := E.2.1) (v := ex_v (ex_g b b0) v) (ty := .boolean) (C := ex_RC E.2.1) (T := ex_TC E.2.1) (N := ex_nF E.2.1) hx hb hts (hin _ o1) (ex_tyF E.2.1) (ex_ty_ok E.2.1) (ex_nm_ok E.2.1) hown hK hH.1 (ex_w_D b b0 ca h) hH.2.1 (c0 - 1) (ex_w_at hn1 hc) (ex_cl_ok o1) E.2.2.1 o2 (hts _ o3) (fun _ h9 => h9) t3 hd2 hv.1 hv.2 hl hd kk2
        · have hd2 := ex_ty_ok E.2.1 _ o2
          have hv : narrow (ex_tyF E.2.1 E.2.2.1) (ex_v (ex_g b b0) v) = ex_v (ex_g b b0) v ∧ fits (ex_tyF E.2.1 E.2.2.1) (ex_v (ex_g b b0) v) = true := by
            unfold ex_fit at hn4
            split at hn4
            · rw [t1] at hn4; exact absurd hn4 (by simp)
            · rcases t2 with ⟨n, hn⟩ | ⟨n, hn⟩ <;> rw [hn] <;> exact ⟨rfl, rfl⟩
            · cases hn4
          exact va_putF (D := D) (ci := E.2.1) (v := ex_v (ex_g b b0) v) (ty := ex_tyF E.2.1 E.2.2.1) (C := ex_RC E.2.1) (T := ex_TC E.2.1) (N := ex_nF E.2.1) hx hb hts (hin _ o1) (ex_tyF E.2.1) (ex_ty_ok E.2.1) (ex_nm_ok E.2.1) hown hK hH.1 (ex_w_D b b0 ca h) hH.2.1 (c0 - 1) (ex_w_at hn1 hc) (ex_cl_ok o1) E.2.2.1 o2 (hts _ o3) (fun _ h9 => h9) t3 (hin0 t4) t5 hd2 hv.1 hv.2 hl hd kk2
    · cases hs
  · cases hs
theorem ex_ald_ok (C : ex_Cx p s m args meth c D ca b b0 Lx xs nw M) (h0 : h[0]? = some (.inl (0, Lx, xs))) (hH : ex_Hs D ca b b0 n0 z0 s H locs cells slots h) (hs : ex_ald st h = some (st', h')) (hd : decode M.2.2.1 pc = .ok (.iaload, 1))
    (kk : ex_Hs D ca b b0 n0 z0 s H locs cells slots h' → W p l e R s m args below meth c H locs cells slots Q (F0 m (pc + 1) ls (st'.map (ex_v (ex_g b b0))))) : W p l e R s m args below meth c H locs cells slots Q (F0 m pc ls (st.map (ex_v (ex_g b b0)))) := by
  obtain ⟨hx, hb, hml, hown, hts, hin0, hK, hnw, hAO, hX, hb1, hb2⟩ := C
  unfold ex_ald at hs
  split at hs
  · rename_i i c0 st0
    split at hs
    · rename_i n f hc
      split at hs
      · rename_i hi
        cases hs
        by_cases hz : c0 = 0
        · subst hz
          rw [h0] at hc
          cases hc
          exact va_sld (A := fun q => b0 < q) (b := b) hx hb hX (by omega) (by show ¬ b0 < b; omega) hH.2.1 (ex_in_vp hi) hd (kk hH)
        · exact va_iald hx hb hK hH.1 (c0 - 1) 0 (ex_w_at hz hc) rfl (ex_in_vp hi) hd (kk hH)
      · cases hs
    · cases hs
  · cases hs
theorem ex_bld_ok (C : ex_Cx p s m args meth c D ca b b0 Lx xs nw M) (hH : ex_Hs D ca b b0 n0 z0 s H locs cells slots h) (hs : ex_bld st h = some (st', h')) (hd : decode M.2.2.1 pc = .ok (.baload, 1))
    (kk : ex_Hs D ca b b0 n0 z0 s H locs cells slots h' → W p l e R s m args below meth c H locs cells slots Q (F0 m (pc + 1) ls (st'.map (ex_v (ex_g b b0))))) : W p l e R s m args below meth c H locs cells slots Q (F0 m pc ls (st.map (ex_v (ex_g b b0)))) := by
  obtain ⟨hx, hb, hml, hown, hts, hin0, hK, hnw, hAO, hX, hb1, hb2⟩ := C
  unfold ex_bld at hs
  split at hs
  · rename_i i c0 st0
    split at hs
    · rename_i n f hc
      split at hs
      · rename_i hi
        cases hs
        exact va_bald hx hb hK hH.1 (c0 - 1) 1 (ex_w_at hi.1 hc) rfl (ex_in_vp hi.2) hd (kk hH)
      · cases hs
    · rename_i n f hc
      split at hs
      · rename_i hi
        cases hs
        exact va_zald hx hb hK hH.1 (c0 - 1) 2 (ex_w_at hi.1 hc) rfl (ex_in_vp hi.2) hd (kk hH)
      · cases hs
    · cases hs
  · cases hs
theorem ex_qld_ok (C : ex_Cx p s m args meth c D ca b b0 Lx xs nw M) (hH : ex_Hs D ca b b0 n0 z0 s H locs cells slots h) (hs : ex_qld st h = some (st', h')) (hd : decode M.2.2.1 pc = .ok (.aaload, 1))
    (kk : ex_Hs D ca b b0 n0 z0 s H locs cells slots h' → W p l e R s m args below meth c H locs cells slots Q (F0 m (pc + 1) ls (st'.map (ex_v (ex_g b b0))))) : W p l e R s m args below meth c H locs cells slots Q (F0 m pc ls (st.map (ex_v (ex_g b b0)))) := by
  obtain ⟨hx, hb, hml, hown, hts, hin0, hK, hnw, hAO, hX, hb1, hb2⟩ := C
  unfold ex_qld at hs
  split at hs
  · rename_i i c0 st0
    split at hs
    · rename_i n f hc
      split at hs
      · rename_i hi
        split at hs
        · rename_i r hr
          cases hs
          refine va_aldq hx hb hK hH.1 (c0 - 1) 3 (ex_w_at hi.1 hc) rfl (ex_in_vp hi.2) hd ?_
          dsimp only
          rw [hr]
          exact kk hH
        · cases hs
      · cases hs
    · cases hs
  · cases hs
theorem ex_ast_ok (C : ex_Cx p s m args meth c D ca b b0 Lx xs nw M) (hH : ex_Hs D ca b b0 n0 z0 s H locs cells slots h) (hs : ex_ast st h = some (st', h')) (hd : decode M.2.2.1 pc = .ok (.iastore, 1))
    (kk : ∀ H' locs', ex_Hs D ca b b0 n0 z0 s H' locs' cells slots h' → W p l e R s m args below meth c H' locs' cells slots Q (F0 m (pc + 1) ls (st'.map (ex_v (ex_g b b0))))) : W p l e R s m args below meth c H locs cells slots Q (F0 m pc ls (st.map (ex_v (ex_g b b0)))) := by
  obtain ⟨hx, hb, hml, hown, hts, hin0, hK, hnw, hAO, hX, hb1, hb2⟩ := C
  unfold ex_ast at hs
  split at hs
  · rename_i x i c0 st0
    split at hs
    · rename_i n f hc
      split at hs
      · rename_i hi
        cases hs
        exact va_iast hx hb hK hH.1 (ex_w_D b b0 ca h) hH.2.1 (c0 - 1) 0 (ex_w_at hi.1 hc) rfl (ex_in_vp hi.2) hd (fun H1 locs1 hP1 _ hS1 => kk H1 locs1 (hH.set hi.1 hc (y := .inl (0, n, upd f i.toNatClampNeg x)) rfl hP1 hS1))
      · cases hs
    · cases hs
  · cases hs
theorem ex_bst_ok (C : ex_Cx p s m args meth c D ca b b0 Lx xs nw M) (hH : ex_Hs D ca b b0 n0 z0 s H locs cells slots h) (hs : ex_bst st h = some (st', h')) (hd : decode M.2.2.1 pc = .ok (.bastore, 1))
    (kk : ∀ H' locs', ex_Hs D ca b b0 n0 z0 s H' locs' cells slots h' → W p l e R s m args below meth c H' locs' cells slots Q (F0 m (pc + 1) ls (st'.map (ex_v (ex_g b b0))))) : W p l e R s m args below meth c H locs cells slots Q (F0 m pc ls (st.map (ex_v (ex_g b b0)))) := by
  obtain ⟨hx, hb, hml, hown, hts, hin0, hK, hnw, hAO, hX, hb1, hb2⟩ := C
  unfold ex_bst at hs
  split at hs
  · rename_i x i c0 st0
    split at hs
    · rename_i n f hc
      split at hs
      · rename_i hi
        cases hs
        exact va_bast hx hb hK hH.1 (ex_w_D b b0 ca h) hH.2.1 (c0 - 1) 1 (ex_w_at hi.1 hc) rfl (ex_in_vp hi.2) hd (fun H1 locs1 hP1 _ hS1 => kk H1 locs1 (hH.set hi.1 hc (y := .inl (1, n, upd f i.toNatClampNeg (vp_nar .byte x))) rfl hP1 hS1))
      · cases hs
    · rename_i n f hc
      split at hs
      · rename_i hi
        cases hs
        exact va_zast hx hb hK hH.1 (ex_w_D b b0 ca h) hH.2.1 (c0 - 1) 2 (ex_w_at hi.1 hc) rfl (ex_in_vp hi.2) hd (fun H1 locs1 hP1 _ hS1 => kk H1 locs1 (hH.set hi.1 hc (y := .inl (2, n, upd f i.toNatClampNeg (vp_nar .boolean x))) rfl hP1 hS1))
      · cases hs
    · cases hs
  · cases hs
theorem ex_qst_ok (C : ex_Cx p s m args meth c D ca b b0 Lx xs nw M) (hH : ex_Hs D ca b b0 n0 z0 s H locs cells slots h) (hs : ex_qst st h = some (st', h')) (hd : decode M.2.2.1 pc = .ok (.aastore, 1))
    (kk : ∀ H' locs', ex_Hs D ca b b0 n0 z0 s H' locs' cells slots h' → W p l e R s m args below meth c H' locs' cells slots Q (F0 m (pc + 1) ls (st'.map (ex_v (ex_g b b0))))) : W p l e R s m args below meth c H locs cells slots Q (F0 m pc ls (st.map (ex_v (ex_g b b0)))) := by
  obtain ⟨hx, hb, hml, hown, hts, hin0, hK, hnw, hAO, hX, hb1, hb2⟩ := C
  unfold ex_qst at hs
  split at hs
  · rename_i v i c0 st0
    split at hs
    · rename_i n f fs hc hv
      split at hs
      · rename_i hi
        cases hs
        refine va_astq (r := (ex_RC 5, ex_TC 5, ex_nF 5)) hx hb hK hH.1 (ex_w_D b b0 ca h) hH.2.1 (c0 - 1) 3 (v - 1) 5 (ex_w_at hi.1 hc) rfl (ex_w_at hi.2.1 hv) rfl (ex_in_vp hi.2.2) hd (fun H1 locs1 hP1 _ hS1 => kk H1 locs1 (hH.set hi.1 hc (y := .inr (.inl (n, va_up f i.toNatClampNeg (some v)))) rfl ?_ hS1))
        have he : va_up (fun j => (f j).map (ex_g b b0)) i.toNatClampNeg (some (ex_g b b0 v)) = fun j => (va_up f i.toNatClampNeg (some v) j).map (ex_g b b0) := by
          funext j
          unfold va_up
          split <;> rfl
        have hP2 := hP1
        dsimp only at hP2
        rw [he] at hP2
        exact hP2
      · cases hs
    · cases hs
  · cases hs
theorem ex_aln_ok (C : ex_Cx p s m args meth c D ca b b0 Lx xs nw M) (h0 : h[0]? = some (.inl (0, Lx, xs))) (hH : ex_Hs D ca b b0 n0 z0 s H locs cells slots h) (hs : ex_aln st h = some (st', h')) (hd : decode M.2.2.1 pc = .ok (.arraylength, 1))
    (kk : ex_Hs D ca b b0 n0 z0 s H locs cells slots h' → W p l e R s m args below meth c H locs cells slots Q (F0 m (pc + 1) ls (st'.map (ex_v (ex_g b b0))))) : W p l e R s m args below meth c H locs cells slots Q (F0 m pc ls (st.map (ex_v (ex_g b b0)))) := by
  obtain ⟨hx, hb, hml, hown, hts, hin0, hK, hnw, hAO, hX, hb1, hb2⟩ := C
  unfold ex_aln at hs
  split at hs
  · rename_i c0 st0
    split at hs
    · rename_i n f hc
      cases hs
      by_cases hz : c0 = 0
      · subst hz
        rw [h0] at hc
        cases hc
        exact va_slen (A := fun q => b0 < q) (b := b) hx hb hX (by omega) (by show ¬ b0 < b; omega) hH.2.1 hd (kk hH)
      · exact va_alen hx hb hK hH.1 (c0 - 1) 0 (ex_w_at hz hc) rfl rfl hd (kk hH)
    · rename_i n f hc
      split at hs
      · rename_i hz
        cases hs
        exact va_alen hx hb hK hH.1 (c0 - 1) 1 (ex_w_at hz hc) rfl rfl hd (kk hH)
      · cases hs
    · cases hs
  · cases hs
end EXH
