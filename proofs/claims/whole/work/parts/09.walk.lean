/-! entry of a method, calls, and the whole run -/
theorem ex_sl_at (g : Nat → Nat) : ∀ (as : List Value) (i : Nat) (v : Value), (ex_sl as)[i]? = some (some v) → (lg_sl (as.map (ex_v g)))[i]? = some (.val (ex_v g v)) := by
  intro as
  induction as with
  | nil => intro i v h; simp [ex_sl] at h
  | cons a as ih =>
    intro i v h
    have e1 : ex_sl (a :: as) = (if a.category = 2 then [some a, none] else [some a]) ++ ex_sl as := rfl
    have e2 : lg_sl ((a :: as).map (ex_v g)) = (if (ex_v g a).category = 2 then [.val (ex_v g a), .second] else [.val (ex_v g a)]) ++ lg_sl (as.map (ex_v g)) := rfl
    rw [e1] at h
    rw [e2, ex_v_cat]
    by_cases hc : a.category = 2
    · rw [if_pos hc] at h ⊢
      match i, h with
      | 0, h => cases h; rfl
      | 1, h => cases h
      | i + 2, h => exact ih i v h
    · rw [if_neg hc] at h ⊢
      match i, h with
      | 0, h => cases h; rfl
      | i + 1, h => exact ih i v h
theorem ex_sl_len (g : Nat → Nat) : ∀ as : List Value, (lg_sl (as.map (ex_v g))).length = (ex_sl as).length := by
  intro as
  induction as with
  | nil => rfl
  | cons a as ih =>
    have e1 : ex_sl (a :: as) = (if a.category = 2 then [some a, none] else [some a]) ++ ex_sl as := rfl
    have e2 : lg_sl ((a :: as).map (ex_v g)) = (if (ex_v g a).category = 2 then [.val (ex_v g a), .second] else [.val (ex_v g a)]) ++ lg_sl (as.map (ex_v g)) := rfl
    rw [e1, e2, ex_v_cat, List.length_append, List.length_append, ih]
    split <;> rfl
theorem ex_lok_at {lg : List Nat} : ∀ (L : ex_L) (i0 : Nat), ex_lok lg i0 L = true → ∀ (j : Nat) (v : Value), L[j]? = some (some v) → v.category = 2 → i0 + j ∈ lg := by
  intro L
  induction L with
  | nil => intro i0 _ j v hj; simp at hj
  | cons o L ih =>
    intro i0 h j v hj hv
    match j, hj with
    | 0, hj =>
      cases hj
      cases v <;> first | (simp [Value.category] at hv; done) | skip
      · simp only [ex_lok, Bool.and_eq_true, decide_eq_true_eq] at h
        exact h.1
      · simp only [ex_lok, Bool.and_eq_true, decide_eq_true_eq] at h
        exact h.1
    | j + 1, hj =>
      have h2 : ex_lok lg (i0 + 1) L = true := by
        unfold ex_lok at h
        split at h
        · rename_i q; cases q
        · rename_i q; cases q; exact (Bool.and_eq_true_iff.mp h).2
        · rename_i q; cases q; exact (Bool.and_eq_true_iff.mp h).2
        · rename_i q; cases q; exact h
      have h3 := ih (i0 + 1) h2 j v hj hv
      rw [show i0 + 1 + j = i0 + (j + 1) by omega] at h3
      exact h3
theorem ex_en_ok {M : ex_M} {as : List Value} (g : Nat → Nat) (he : ex_eok M as = true) : ex_Ls g M.2.2.2.1 M.2.2.2.2.2.2.1 ((lg_sl (as.map (ex_v g)) ++ List.replicate (M.2.2.2.1 - (lg_sl (as.map (ex_v g))).length) Slot.unset).toArray) (ex_en M as) := by
  unfold ex_eok at he
  obtain ⟨h1, h2⟩ := Bool.and_eq_true_iff.mp he
  have h1 : (ex_sl as).length ≤ M.2.2.2.1 := of_decide_eq_true h1
  have h3 := lv_entry (as.map (ex_v g)) (n := M.2.2.2.1) (by rw [ex_sl_len]; exact h1)
  have hat : ∀ (i : Nat) (v : Value), (ex_en M as)[i]? = some (some v) → (ex_sl as)[i]? = some (some v) := by
    intro i v hi
    unfold ex_en at hi
    rw [List.getElem?_append] at hi
    split at hi
    · exact hi
    · rw [List.getElem?_replicate] at hi
      split at hi <;> cases hi
  refine ⟨h3.1, ?_, h3.2.1, fun i v hi => ?_, fun i v hi hv => ?_⟩
  · unfold ex_en; simp; omega
  · have h4 := ex_sl_at g as i v (hat i v hi)
    have h5 : i < (lg_sl (as.map (ex_v g))).length := (List.getElem?_eq_some_iff.mp h4).1
    rw [List.getElem?_toArray, List.getElem?_append_left h5]
    exact h4
  · have h4 := ex_lok_at _ 0 h2 i v (hat i v hi) hv
    rw [Nat.zero_add] at h4
    exact h4
def ex_Pc (D : va_G) (ca : Nat → ClassId) (b b0 Lx : Nat) (xs : Nat → Int32) (nw : List Cond) (as : List Value) (h : ex_H) : Array Value → State → Prop := fun av U => av = (as.map (ex_v (ex_g b b0))).toArray ∧ va_P D vwCl (ex_w (ex_g b b0) ca h) U.heap ∧ U.heap.size = b0 + h.length ∧ va_K D vwCl (ex_tys ca) U ∧ (∀ w ∈ nw, va_Nw w U) ∧ va_AO RX5 U ∧ va_X b Lx xs U U.heap
def ex_Qc (D : va_G) (ca : Nat → ClassId) (b b0 : Nat) (r : Option Value) (h' : ex_H) : Array Value → State → Outcome → State → Prop := fun _ st o t => o = .returned (r.map (ex_v (ex_g b b0))) ∧ va_P D vwCl (ex_w (ex_g b b0) ca h') t.heap ∧ va_F (fun q => b0 < q) st t
def ex_nwk (nw : List Cond) : Prop := ∀ w ∈ nw, ∃ (a : String) (i : Nat) (x : MethodName) (o : String), w = .methodLinkNest a i x o
theorem ex_Pc_blind {D : va_G} {ca : Nat → ClassId} {b b0 Lx : Nat} {xs : Nat → Int32} {nw : List Cond} (hnw : ex_nwk nw) (as : List Value) (h : ex_H) : FrameBlind (ex_Pc D ca b b0 Lx xs nw as h) := by
  intro a U g mk ⟨q1, q2, q3, q4, q5, q6, q7⟩
  refine ⟨q1, q2, q3, va_K.moved (u := U) (U := U.calling g mk a) (Vm.Alike.refl U.vm) q4, fun w hw => ?_, va_AO.moved (u := U) (U := U.calling g mk a) (Vm.Alike.refl U.vm) q6, va_X.moved (u := U) (U := U.calling g mk a) (Vm.Alike.refl U.vm) q7⟩
  obtain ⟨_, _, _, _, rfl⟩ := hnw w hw
  exact va_Nw.same (u := U) rfl rfl (q5 _ hw)
theorem ex_good {ws : List Cond} (h : ∀ w ∈ ws, w ∈ ex_tbl) : GoodIn ex_tbl ws := fun w hw => ⟨h w hw, good_of_word (List.mem_filter.mp (h w hw)).2⟩
def ex_rm (d mc ms : Nat) : Room := { frames := d, cells := mc, slots := ms, locals := 40 * d }
/-- a method's words -/
def ex_ws (M : ex_M) : List Cond := .code M.2.1 M.2.2.1 M.2.2.2.1 M.2.2.2.2.1 :: ex_tbl
section EXR
variable {p : Program} {l : Launch} {e : Env} {R : Room} {s : State} {m : MethodId} {args : Array Value} {below : List Frame} {meth : Method} {c : Code} {H : Heap} {locs : List Loc} {cells slots : Nat} {Q : State → Prop}
variable {pc : Nat} {ls : Array Slot} {D : va_G} {ca : Nat → ClassId} {b b0 n0 z0 Lx : Nat} {xs : Nat → Int32} {nw : List Cond} {M : ex_M} {st st' : List Value} {h h' : ex_H}
theorem ex_after {r : Option Value} {h1 : ex_H} {st0 rest : List Value} {a : Array Value} {mc ms : Nat} (hr : va_Run p l e R s m args below meth c H locs cells slots mc ms (F0 m pc ls st0) rest (ex_Qc D ca b b0 r h1 a) (fun q => b0 < q)) (hS : va_S (fun q => b0 < q) s.heap H locs)
    (kk : ∀ (H1 : Heap) (locs1 : List Loc), va_P D vwCl (ex_w (ex_g b b0) ca h1) H1 → va_S (fun q => b0 < q) s.heap H1 locs1 → W p l e R s m args below meth c H1 locs1 (cells + mc) (slots + ms) Q (F0 m (pc + 3) ls ((r.map (ex_v (ex_g b b0))).toList ++ rest))) : W p l e R s m args below meth c H locs cells slots Q (F0 m pc ls st0) := by
  intro T hT X
  obtain ⟨v, st₀, t, T', L, h0, X', hL, e1, e2, ⟨hv, hp, hz, hk⟩, stp⟩ := hr T hT X
  cases hv
  rw [h0] at hz hk
  obtain ⟨t2, a1, b1⟩ := kk T'.heap (locs ++ L) (by rw [e1]; exact hp)
    ⟨Nat.le_trans hS.1 (by rw [e1]; exact hz), fun q h1 h2 => by rw [e1, hk q (Nat.lt_of_lt_of_le h1 hS.1) h2]; exact hS.2.1 q h1 h2, fun q hq => by
      rcases List.mem_append.mp hq with h | h
      · exact hS.2.2 q h
      · exact hL q h⟩ T' rfl X'
  exact ⟨t2, stp t2 a1, b1⟩
theorem ex_pre {as : List Value} (C : ex_Cx p s m args meth c D ca b b0 Lx xs nw M) (hnw : ex_nwk nw) (hH : ex_Hs D ca b b0 n0 z0 s H locs cells slots h) (hz : H.size = b0 + h.length) : ∀ U : State, U.heap = H → s.WarmedH U.vm → ex_Pc D ca b b0 Lx xs nw as h (as.map (ex_v (ex_g b b0))).toArray U := by
  intro U hU hW
  obtain ⟨hx, hb, hml, hown, hts, hin0, hK, hnw1, hAO, hX, hb1, hb2⟩ := C
  refine ⟨rfl, by rw [hU]; exact hH.1, by rw [hU]; exact hz, va_K.moved hW.alike hK, fun w hw => ?_, va_AO.moved hW.alike hAO, ?_⟩
  · obtain ⟨_, _, _, _, rfl⟩ := hnw w hw
    exact va_Nw.warmM hW (hnw1 _ hw)
  · rw [hU]
    exact va_X.moved hW.alike (hX.kept (hH.2.1.2.1 b (by omega) (by omega)))
/-- what the tables say of a method -/
def ex_okM (M : ex_M) (inst : Bool) : Prop := plainName M.2.1.cls = true ∧ M.1 = M.2.1.cls ∧ (M.2.1.cls ≠ "java/lang/invoke/MethodHandle" ∧ M.2.1.cls ≠ "java/lang/invoke/VarHandle") ∧ Cond.code M.2.1 M.2.2.1 M.2.2.2.1 M.2.2.2.2.1 ∈ ex_tbl ∧ Cond.initialized M.2.1.cls ∈ ex_tbl ∧ M.2.2.2.1 ≤ 21 ∧ (inst = false → Cond.static M.2.1 ∈ ex_tbl ∧ (parseMethodDescriptor M.2.1.desc).map (fun d => d.parameters.length) = some M.2.2.2.2.2.1) ∧ (inst = true → Cond.instanceMethod M.2.1 ∈ ex_tbl ∧ (parseMethodDescriptor M.2.1.desc).map (fun d => d.parameters.length + 1) = some M.2.2.2.2.2.1)
theorem ex_ws_in {N : ex_M} {inst : Bool} (h : ex_okM N inst) : ∀ w ∈ ex_ws N, w ∈ ex_tbl := by
  intro w hw
  rcases List.mem_cons.mp hw with rfl | hw
  · exact h.2.2.2.1
  · exact hw
theorem ex_callS {N : ex_M} {as rest : List Value} {r : Option Value} {h1 : ex_H} {i d mc ms : Nat} (hN : ex_okM N false) (C : ex_Cx p s m args meth c D ca b b0 Lx xs nw M) (hnw : ex_nwk nw) (hH : ex_Hs D ca b b0 n0 z0 s H locs cells slots h) (hls : ls.size = M.2.2.2.1)
    (hM : Met l N.2.1 (ex_ws N) (ex_rm d mc ms) (ex_Pc D ca b b0 Lx xs nw as h) (ex_Qc D ca b b0 r h1) mc ms (fun q => b0 < q)) (hlk : Cond.methodLink M.1 i N.2.1 ∈ ex_tbl ∨ ∃ o, Cond.methodLinkNest M.1 i N.2.1 o ∈ nw)
    (hn : as.length = N.2.2.2.2.2.1) (hst : st = as.reverse ++ rest) (hrest : (rest.map fun v => v.category).sum ≤ 8) (hd : decode M.2.2.1 pc = .ok (.invokestatic i, 3)) (hR : d + 1 ≤ R.frames ∧ 40 * (d + 1) ≤ R.locals) (hf : cells + mc ≤ R.cells ∧ slots + ms ≤ R.slots)
    (kk : ∀ (H1 : Heap) (locs1 : List Loc), va_P D vwCl (ex_w (ex_g b b0) ca h1) H1 → va_S (fun q => b0 < q) s.heap H1 locs1 → W p l e R s m args below meth c H1 locs1 (cells + mc) (slots + ms) Q (F0 m (pc + 3) ls ((r.map (ex_v (ex_g b b0))).toList ++ rest.map (ex_v (ex_g b b0))))) : W p l e R s m args below meth c H locs cells slots Q (F0 m pc ls (st.map (ex_v (ex_g b b0)))) := by
  refine ex_size fun hz => ?_
  have hz2 := hH.size hz
  have C0 := C
  obtain ⟨hx, hb, hml, hown, hts, hin0, hK, hnw1, hAO, hX, hb1, hb2⟩ := C
  obtain ⟨o1, o2, o3, o4, o5, o6, o7, o8⟩ := hN
  obtain ⟨o9, o10⟩ := o7 rfl
  have hp : PreS s H (ex_Pc D ca b b0 Lx xs nw as h) (as.map (ex_v (ex_g b b0))) := ⟨ex_Pc_blind hnw as h, ex_pre C0 hnw hH hz2⟩
  have hstk : (F0 m pc ls (st.map (ex_v (ex_g b b0)))).stack = (as.map (ex_v (ex_g b b0))).reverse ++ rest.map (ex_v (ex_g b b0)) := by
    show st.map _ = _
    rw [hst, List.map_append, List.map_reverse]
  have hW8 : 2 * (F0 m pc ls (st.map (ex_v (ex_g b b0)))).monitorRoom + ((rest.map (ex_v (ex_g b b0))).map fun v => v.category).sum ≤ 8 := lv_room (by rw [ex_v_sum]; exact hrest)
  have hR2 : (ex_rm d mc ms).frames + 1 ≤ R.frames ∧ 8 + (N.2.2.2.1 + 11) + (ex_rm d mc ms).locals ≤ R.locals := ⟨hR.1, by have := hR.2; show 8 + (N.2.2.2.1 + 11) + 40 * d ≤ R.locals; omega⟩
  have hin : ∀ w ∈ ex_ws N, w ∈ ex_tbl := ex_ws_in ⟨o1, o2, o3, o4, o5, o6, o7, o8⟩
  rcases hlk with hlk | ⟨o, hlk⟩
  · refine ex_after (va_runS (rest := rest.map (ex_v (ex_g b b0))) ⟨hx, hb, hml, hown, hts⟩ hM (va_cwS (bytes := N.2.2.1) (maxL := N.2.2.2.1) (ret := N.2.2.2.2.1) N.2.2.2.2.2.1 hts (ex_good (ws := va_wsS M.1 i N.2.1 (ex_ws N)) (fun w hw => ?_)) rfl rfl rfl ⟨o3.1, o3.2, o10⟩ hR2) hp rfl (by rw [List.length_map]; exact hn) hls hstk hW8 hd hf) hH.2.1 kk
    rcases List.mem_append.mp hw with h1 | h1
    · simp at h1
      rcases h1 with rfl | rfl | rfl
      · exact hlk
      · exact o9
      · exact o5
    · exact hin w h1
  · exact ex_after (va_runSN (rest := rest.map (ex_v (ex_g b b0))) ⟨hx, hb, hml, hown, hts⟩ hM ⟨va_cnB (bytes := N.2.2.1) (maxL := N.2.2.2.1) (ret := N.2.2.2.2.1) N.2.2.2.2.2.1 hts (ex_good hin) rfl rfl rfl (hnw1 _ hlk) (hts _ o5) ⟨o3.1, o3.2, o10⟩ hR2, hts _ o9, trivial⟩ hp rfl (by rw [List.length_map]; exact hn) hls hstk hW8 hd hf) hH.2.1 kk
theorem ex_parm {d : String} {n k : Nat} (h : (parseMethodDescriptor d).map (fun d => d.parameters.length + 1) = some k) (hk : n + 1 = k) : (parseMethodDescriptor d).map (fun d => d.parameters.length) = some n := by
  cases hd : parseMethodDescriptor d with
  | none => rw [hd] at h; cases h
  | some x => rw [hd] at h; simp at h ⊢; omega
theorem ex_callV {N : ex_M} {c0 ci : Nat} {fs : List Value} {as rest : List Value} {r : Option Value} {h1 : ex_H} {i d mc ms : Nat} (hN : ex_okM N true) (hsel : Cond.selects N.2.1.cls N.2.1 N.2.1 ∈ ex_tbl) (C : ex_Cx p s m args meth c D ca b b0 Lx xs nw M) (hnw : ex_nwk nw) (hH : ex_Hs D ca b b0 n0 z0 s H locs cells slots h) (hls : ls.size = M.2.2.2.1)
    (hM : Met l N.2.1 (ex_ws N) (ex_rm d mc ms) (ex_Pc D ca b b0 Lx xs nw (.ref c0 :: as) h) (ex_Qc D ca b b0 r h1) mc ms (fun q => b0 < q)) (hlk : Cond.methodLink M.1 i N.2.1 ∈ ex_tbl ∨ ∃ o, Cond.methodLinkNest M.1 i N.2.1 o ∈ nw)
    (hc0 : c0 ≠ 0) (hcell : h[c0]? = some (.inr (.inr (ci, fs)))) (hci : ci < 8 ∧ ex_RC ci = N.2.1.cls)
    (hn : as.length + 1 = N.2.2.2.2.2.1) (hst : st = as.reverse ++ .ref c0 :: rest) (hrest : (rest.map fun v => v.category).sum ≤ 8) (hd : decode M.2.2.1 pc = .ok (.invokevirtual i, 3)) (hR : d + 1 ≤ R.frames ∧ 40 * (d + 1) ≤ R.locals) (hf : cells + mc ≤ R.cells ∧ slots + ms ≤ R.slots)
    (kk : ∀ (H1 : Heap) (locs1 : List Loc), va_P D vwCl (ex_w (ex_g b b0) ca h1) H1 → va_S (fun q => b0 < q) s.heap H1 locs1 → W p l e R s m args below meth c H1 locs1 (cells + mc) (slots + ms) Q (F0 m (pc + 3) ls ((r.map (ex_v (ex_g b b0))).toList ++ rest.map (ex_v (ex_g b b0))))) : W p l e R s m args below meth c H locs cells slots Q (F0 m pc ls (st.map (ex_v (ex_g b b0)))) := by
  refine ex_size fun hz => ?_
  have hz2 := hH.size hz
  have C0 := C
  obtain ⟨hx, hb, hml, hown, hts, hin0, hK, hnw1, hAO, hX, hb1, hb2⟩ := C
  obtain ⟨o1, o2, o3, o4, o5, o6, o7, o8⟩ := hN
  obtain ⟨o9, o10⟩ := o8 rfl
  have o11 := ex_parm o10 hn
  have hrcv : ∃ cellB : Cell, H[ex_g b b0 c0]? = some cellB ∧ cellB.vm.isStatics = false ∧ s.vm.findClass N.2.1.cls = some cellB.cls := by
    obtain ⟨r9, f1, cell, f2, f3, f4, -⟩ := hH.1 _ _ (ex_w_at (g := ex_g b b0) (ca := ca) hc0 hcell)
    obtain ⟨-, g1, -⟩ := hK.1 ci _ (ex_cl_ok hci.1)
    refine ⟨cell, f2, by rw [f4]; rfl, ?_⟩
    rw [← hci.2, f3]
    exact g1
  have hp : PreV s H N.2.1.cls (ex_g b b0 c0) (ex_Pc D ca b b0 Lx xs nw (.ref c0 :: as) h) (as.map (ex_v (ex_g b b0))) := ⟨ex_Pc_blind hnw _ h, hrcv, ex_pre (as := .ref c0 :: as) C0 hnw hH hz2⟩
  have hstk : (F0 m pc ls (st.map (ex_v (ex_g b b0)))).stack = (as.map (ex_v (ex_g b b0))).reverse ++ .ref (ex_g b b0 c0) :: rest.map (ex_v (ex_g b b0)) := by
    show st.map _ = _
    rw [hst, List.map_append, List.map_reverse]
    rfl
  have hW8 : 2 * (F0 m pc ls (st.map (ex_v (ex_g b b0)))).monitorRoom + ((rest.map (ex_v (ex_g b b0))).map fun v => v.category).sum ≤ 8 := lv_room (by rw [ex_v_sum]; exact hrest)
  have hR2 : (ex_rm d mc ms).frames + 1 ≤ R.frames ∧ 8 + (N.2.2.2.1 + 11) + (ex_rm d mc ms).locals ≤ R.locals := ⟨hR.1, by have := hR.2; show 8 + (N.2.2.2.1 + 11) + 40 * d ≤ R.locals; omega⟩
  have hin : ∀ w ∈ ex_ws N, w ∈ ex_tbl := ex_ws_in ⟨o1, o2, o3, o4, o5, o6, o7, o8⟩
  rcases hlk with hlk | ⟨o, hlk⟩
  · refine ex_after (va_runV (rest := rest.map (ex_v (ex_g b b0))) ⟨hx, hb, hml, hown, hts⟩ hM (cwV (bytes := N.2.2.1) (maxL := N.2.2.2.1) (ret := N.2.2.2.2.1) as.length hts (ex_good (ws := wsV M.1 i N.2.1.cls N.2.1 (ex_ws N)) (fun w hw => ?_)) rfl rfl rfl ⟨rfl, o3.1, o3.2, o11⟩ hR2) hp rfl (by rw [List.length_map]) hls hstk hW8 hd hf) hH.2.1 kk
    rcases List.mem_append.mp hw with h1 | h1
    · simp at h1
      rcases h1 with rfl | rfl | rfl | rfl
      · exact hlk
      · exact o9
      · exact hsel
      · exact o5
    · exact hin w h1
  · exact ex_after (va_runVN (C := N.2.1.cls) (rest := rest.map (ex_v (ex_g b b0))) ⟨hx, hb, hml, hown, hts⟩ hM ⟨va_cnB (bytes := N.2.2.1) (maxL := N.2.2.2.1) (ret := N.2.2.2.2.1) as.length hts (ex_good hin) rfl rfl rfl (hnw1 _ hlk) (hts _ o5) ⟨o3.1, o3.2, o11⟩ hR2, hts _ o9, hts _ hsel⟩ hp rfl (by rw [List.length_map]) hls hstk hW8 hd hf) hH.2.1 kk
theorem ex_callI {N : ex_M} {c0 : Nat} {as rest : List Value} {r : Option Value} {h1 : ex_H} {i d mc ms : Nat} (hN : ex_okM N true) (hini : N.2.1.name = "<init>" ∧ N.2.2.2.2.1 = none) (C : ex_Cx p s m args meth c D ca b b0 Lx xs nw M) (hnw : ex_nwk nw) (hH : ex_Hs D ca b b0 n0 z0 s H locs cells slots h) (hls : ls.size = M.2.2.2.1)
    (hM : Met l N.2.1 (ex_ws N) (ex_rm d mc ms) (ex_Pc D ca b b0 Lx xs nw (.ref c0 :: as) h) (ex_Qc D ca b b0 r h1) mc ms (fun q => b0 < q)) (hlk : Cond.methodLink M.1 i N.2.1 ∈ ex_tbl ∨ ∃ o, Cond.methodLinkNest M.1 i N.2.1 o ∈ nw)
    (hn : as.length + 1 = N.2.2.2.2.2.1) (hst : st = as.reverse ++ .ref c0 :: rest) (hrest : (rest.map fun v => v.category).sum ≤ 8) (hd : decode M.2.2.1 pc = .ok (.invokespecial i, 3)) (hR : d + 1 ≤ R.frames ∧ 40 * (d + 1) ≤ R.locals) (hf : cells + mc ≤ R.cells ∧ slots + ms ≤ R.slots)
    (kk : ∀ (H1 : Heap) (locs1 : List Loc), va_P D vwCl (ex_w (ex_g b b0) ca h1) H1 → va_S (fun q => b0 < q) s.heap H1 locs1 → W p l e R s m args below meth c H1 locs1 (cells + mc) (slots + ms) Q (F0 m (pc + 3) ls ((r.map (ex_v (ex_g b b0))).toList ++ rest.map (ex_v (ex_g b b0))))) : W p l e R s m args below meth c H locs cells slots Q (F0 m pc ls (st.map (ex_v (ex_g b b0)))) := by
  refine ex_size fun hz => ?_
  have hz2 := hH.size hz
  have C0 := C
  obtain ⟨hx, hb, hml, hown, hts, hin0, hK, hnw1, hAO, hX, hb1, hb2⟩ := C
  obtain ⟨o1, o2, o3, o4, o5, o6, o7, o8⟩ := hN
  obtain ⟨o9, o10⟩ := o8 rfl
  have o11 := ex_parm o10 hn
  have hp : PreS s H (ex_Pc D ca b b0 Lx xs nw (.ref c0 :: as) h) (.ref (ex_g b b0 c0) :: as.map (ex_v (ex_g b b0))) := ⟨ex_Pc_blind hnw _ h, ex_pre (as := .ref c0 :: as) C0 hnw hH hz2⟩
  have hstk : (F0 m pc ls (st.map (ex_v (ex_g b b0)))).stack = (as.map (ex_v (ex_g b b0))).reverse ++ .ref (ex_g b b0 c0) :: rest.map (ex_v (ex_g b b0)) := by
    show st.map _ = _
    rw [hst, List.map_append, List.map_reverse]
    rfl
  have hW8 : 2 * (F0 m pc ls (st.map (ex_v (ex_g b b0)))).monitorRoom + ((rest.map (ex_v (ex_g b b0))).map fun v => v.category).sum ≤ 8 := lv_room (by rw [ex_v_sum]; exact hrest)
  have hR2 : (ex_rm d mc ms).frames + 1 ≤ R.frames ∧ 8 + (N.2.2.2.1 + 11) + (ex_rm d mc ms).locals ≤ R.locals := ⟨hR.1, by have := hR.2; show 8 + (N.2.2.2.1 + 11) + 40 * d ≤ R.locals; omega⟩
  have hin : ∀ w ∈ ex_ws N, w ∈ ex_tbl := ex_ws_in ⟨o1, o2, o3, o4, o5, o6, o7, o8⟩
  have hw0 : ex_ws N = Cond.code N.2.1 N.2.2.1 N.2.2.2.1 none :: ex_tbl := by unfold ex_ws; rw [hini.2]
  rcases hlk with hlk | ⟨o, hlk⟩
  · exact ex_after (va_runI (rest := rest.map (ex_v (ex_g b b0))) ⟨hx, hb, hml, hown, hts⟩ hM (cwI (bytes := N.2.2.1) (maxL := N.2.2.2.1) as.length hts (ex_good hin) hw0 rfl rfl (hts _ o5) (hts _ hlk) (hts _ o9) hini.1 ⟨o3.1, o3.2, o11⟩ hR2) hp rfl (by rw [List.length_map]) hls hstk hW8 hd hf) hH.2.1 kk
  · exact ex_after (va_runIN (rest := rest.map (ex_v (ex_g b b0))) ⟨hx, hb, hml, hown, hts⟩ hM ⟨va_cnB (bytes := N.2.2.1) (maxL := N.2.2.2.1) (ret := none) as.length hts (ex_good hin) hw0 rfl rfl (hnw1 _ hlk) (hts _ o5) ⟨o3.1, o3.2, o11⟩ hR2, hini.1, hts _ o9⟩ hp rfl (by rw [List.length_map]) hls hstk hW8 hd hf) hH.2.1 kk
end EXR
