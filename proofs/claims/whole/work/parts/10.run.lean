/-! the main row: a run of the pure machine is a walk of the machine -/
def ex_lk (nw : List Cond) (own : String) (i : Nat) (y : MethodName) : Prop := Cond.methodLink own i y ∈ ex_tbl ∨ ∃ o, Cond.methodLinkNest own i y o ∈ nw
def ex_okE (P : Nat → ex_M) (nw : List Cond) (M : ex_M) (pc : Nat) (E : ex_I) : Prop := ex_okd M.2.2.1 pc E.1 ∧ ex_okg pc E ∧ (∀ w, ex_kw M.1 E.1 E.2.2.2 = some w → w ∈ ex_tbl) ∧ (match E.1 with
  | .getfield i => ex_okf M.1 i E.2.1 E.2.2.1
  | .putfield i => ex_okf M.1 i E.2.1 E.2.2.1 ∧ ex_okt M.1 M.2.1.name E.2.1 E.2.2.1 E.2.2.2
  | .new i => Cond.classLink M.1 i (ex_RC E.2.1) ∈ ex_tbl ∧ Cond.instantiable (ex_RC E.2.1) (ex_nF E.2.1) ∈ ex_tbl ∧ Cond.initialized (ex_RC E.2.1) ∈ ex_tbl
  | .anewarray i => Cond.classLink M.1 i RX5 ∈ ex_tbl
  | .invokestatic i => if E.2.2.1 = 3 then Cond.methodLink M.1 i arraycopyName ∈ ex_tbl else ex_okM (P E.2.1) false ∧ ex_lk nw M.1 i (P E.2.1).2.1
  | .invokevirtual i => ex_okM (P E.2.1) true ∧ Cond.selects (P E.2.1).2.1.cls (P E.2.1).2.1 (P E.2.1).2.1 ∈ ex_tbl ∧ (∃ ci : Nat, E.2.2.2 = (ci : Int) ∧ ci < 8 ∧ ex_RC ci = (P E.2.1).2.1.cls) ∧ ex_lk nw M.1 i (P E.2.1).2.1
  | .invokespecial i => if E.2.2.1 = 2 then Cond.methodLink M.1 i objectInit ∈ ex_tbl else ex_okM (P E.2.1) true ∧ ((P E.2.1).2.1.name = "<init>" ∧ (P E.2.1).2.2.2.2.1 = none) ∧ ex_lk nw M.1 i (P E.2.1).2.1
  | _ => True)
def ex_gw : Prop := (∀ ci, ci < 8 → ∀ w ∈ u_ws (ex_RC ci) (ex_TC ci) (ex_nF ci), w ∈ ex_tbl) ∧ (Cond.arrayClass .int ∈ ex_tbl ∧ Cond.arrayClass .byte ∈ ex_tbl ∧ Cond.arrayClass .boolean ∈ ex_tbl) ∧ (Cond.native arraycopyName ∈ ex_tbl ∧ Cond.static arraycopyName ∈ ex_tbl ∧ Cond.initialized "java/lang/System" ∈ ex_tbl) ∧ (Cond.instanceMethod objectInit ∈ ex_tbl ∧ Cond.code objectInit ⟨#[0xb1]⟩ 1 none ∈ ex_tbl)
def ex_ok (P : Nat → ex_M) (nw : List Cond) : Prop := (∀ k pc E, (P k).2.2.2.2.2.2.2 pc = some E → ex_okE P nw (P k) pc E) ∧ ex_gw ∧ ex_nwk nw
theorem ex_op_sw {I : Instr} {v : Int} {st st' : List Value} (h : ex_op I v st = some st') : ex_sw I = false := by
  cases I <;> first | rfl | exact absurd h (by simp [ex_op])
theorem ex_lo_sw {M : ex_M} {E : ex_I} {L L' : ex_L} {st st' : List Value} (h : ex_lo M E L st = some (L', st')) : ex_sw E.1 = false := by
  obtain ⟨I, a, b, v⟩ := E
  cases I <;> first | rfl | exact absurd h (by simp [ex_lo, ex_lds, ex_sts])
section EXZ
variable {p : Program} {l : Launch} {e : Env} {R : Room} {s : State} {m : MethodId} {args : Array Value} {below : List Frame} {meth : Method} {c : Code} {H : Heap} {locs : List Loc} {cells slots : Nat} {Q : State → Prop}
variable {pc : Nat} {ls : Array Slot} {D : va_G} {ca : Nat → ClassId} {b b0 n0 z0 Lx : Nat} {xs : Nat → Int32} {nw : List Cond} {M : ex_M} {st st' : List Value} {h h' : ex_H}
theorem ex_hp_ok {P : Nat → ex_M} {d : Nat} {E : ex_I} (hG : ex_gw) (C : ex_Cx p s m args meth c D ca b b0 Lx xs nw M) (hls : ls.size = M.2.2.2.1) (h0 : h[0]? = some (.inl (0, Lx, xs))) (hH : ex_Hs D ca b b0 n0 z0 s H locs cells slots h) (ho : ex_okE P nw M pc E) (hs : ex_hp d E st h = some (st', h')) (hr : d ≤ R.frames ∧ 40 * d ≤ R.locals) (hc : h'.length ≤ R.cells + n0 ∧ ex_hs h' ≤ R.slots + z0)
    (kk : ∀ H' locs' cells' slots', ex_Hs D ca b b0 n0 z0 s H' locs' cells' slots' h' → W p l e R s m args below meth c H' locs' cells' slots' Q (F0 m (pc + ex_len E.1) ls (st'.map (ex_v (ex_g b b0))))) : W p l e R s m args below meth c H locs cells slots Q (F0 m pc ls (st.map (ex_v (ex_g b b0)))) := by
  obtain ⟨I, a, b', v⟩ := E
  obtain ⟨g1, g2, g3, g4⟩ := hG
  obtain ⟨od, og, ok, ow⟩ := ho
  unfold ex_hp at hs
  dsimp only at hs od og ok ow kk
  split at hs
  · exact ex_getf_ok C hH g1 ow hs (od.plain rfl) (kk _ _ _ _)
  · exact ex_putf_ok C hH g1 ow.1 ow.2 hs (od.plain rfl) (fun H' locs' => kk H' locs' _ _)
  · exact ex_ald_ok C h0 hH hs (od.plain rfl) (kk _ _ _ _)
  · exact ex_bld_ok C hH hs (od.plain rfl) (kk _ _ _ _)
  · exact ex_qld_ok C hH hs (od.plain rfl) (kk _ _ _ _)
  · exact ex_ast_ok C hH hs (od.plain rfl) (fun H' locs' => kk H' locs' _ _)
  · exact ex_bst_ok C hH hs (od.plain rfl) (fun H' locs' => kk H' locs' _ _)
  · exact ex_qst_ok C hH hs (od.plain rfl) (fun H' locs' => kk H' locs' _ _)
  · exact ex_aln_ok C h0 hH hs (od.plain rfl) (kk _ _ _ _)
  · exact ex_new_ok C hH g1 ow hs (od.plain rfl) ⟨Nat.zero_le _, hc⟩ kk
  · exact ex_nar_ok C hH g2 hs (od.plain rfl) hc kk
  · exact ex_nqr_ok C hH ow hs (od.plain rfl) hc kk
  · split at hs
    · rename_i h3
      dsimp only at ow
      rw [if_pos h3] at ow
      exact ex_cpy_ok C hls hH ⟨ow, g3⟩ hs (od.plain rfl) hr (fun H' locs' => kk H' locs' _ _)
    · cases hs
  · split at hs
    · rename_i h3
      dsimp only at ow
      rw [if_pos h3] at ow
      exact ex_obj_ok (h := h) C hls ⟨ow, g4⟩ hs (od.plain rfl) hr (fun q => kk _ _ _ _ (by rw [q]; exact hH))
    · cases hs
  · cases hs
/-- what the machine does at the method's own end -/
def ex_End (p : Program) (l : Launch) (e : Env) (R : Room) (s : State) (m : MethodId) (args : Array Value) (below : List Frame) (meth : Method) (c : Code) (Q : State → Prop) (D : va_G) (ca : Nat → ClassId) (b b0 n0 z0 : Nat) (M : ex_M) (r : Option Value) (h' : ex_H) : Prop :=
  ∀ (H : Heap) (locs : List Loc) (cells slots : Nat) (ls : Array Slot) (pc : Nat), ex_Hs D ca b b0 n0 z0 s H locs cells slots h' →
    (∀ x, r = some (.int x) → decode M.2.2.1 pc = .ok (.ireturn, 1) → (M.2.2.2.2.1 = some .int ∨ (M.2.2.2.2.1 = some .boolean ∧ (x = 0 ∨ x = 1))) → W p l e R s m args below meth c H locs cells slots Q (F0 m pc ls [.int x])) ∧
    (r = none → decode M.2.2.1 pc = .ok (.return_, 1) → M.2.2.2.2.1 = none → W p l e R s m args below meth c H locs cells slots Q (F0 m pc ls []))
end EXZ
/-- a method's contract out of its walk -/
theorem ex_met {P : Nat → ex_M} {nw : List Cond} {M : ex_M} {inst : Bool} {l : Launch} {D : va_G} {ca : Nat → ClassId} {b b0 Lx : Nat} {xs : Nat → Int32} {as : List Value} {h h' : ex_H} {r : Option Value} {d mc ms : Nat} (hM : ex_okM M inst) (he : ex_eok M as = true) (h0 : h[0]? = some (.inl (0, Lx, xs))) (hb : b ≤ b0) (hmc : h.length + mc = h'.length) (hms : ex_hs h + ms = ex_hs h')
    (walk : ∀ (p : Program) (e : Env) (R : Room) (s : State) (m : MethodId) (args : Array Value) (below : List Frame) (meth : Method) (c : Code) (H : Heap) (locs : List Loc) (cells slots : Nat) (Q : State → Prop) (ls : Array Slot) (n0 z0 : Nat), ex_Cx p s m args meth c D ca b b0 Lx xs nw M → ex_Hs D ca b b0 n0 z0 s H locs cells slots h → ex_Ls (ex_g b b0) M.2.2.2.1 M.2.2.2.2.2.2.1 ls (ex_en M as) → d ≤ R.frames ∧ 40 * d ≤ R.locals → h'.length ≤ R.cells + n0 ∧ ex_hs h' ≤ R.slots + z0 → ex_End p l e R s m args below meth c Q D ca b b0 n0 z0 M r h' → W p l e R s m args below meth c H locs cells slots Q (F0 m 0 ls [])) :
    Met l M.2.1 (ex_ws M) (ex_rm d mc ms) (ex_Pc D ca b b0 Lx xs nw as h) (ex_Qc D ca b b0 r h') mc ms (fun q => b0 < q) := by
  refine Met.ofW (cc := M.2.2.1) (maxL := M.2.2.2.1) (ret := M.2.2.2.2.1) hM.1 rfl ?_
  intro p e s m args below meth c s₁ B hml hv
  obtain ⟨rfl, q2, q3, q4, q5, q6, q7⟩ := hv
  have hx := B.exec
  have hbt := B.bytes
  have hr := B.returns
  have hts := atoms_spec (ws := ex_ws M) B.pre
  have hown : s.vm.findClass M.1 = some m.cls := hM.2.1 ▸ findClass_of_methodNamed B.named
  have hlocks := B.notSynchronized
  have hin : meth.name = M.2.1.name := (name_of_methodNamed B.named B.method).1
  have hl1 : 1 ≤ h.length := by have := (List.getElem?_eq_some_iff.mp h0).1; omega
  rw [lg_entry_eq]
  refine walk p e _ s m _ below meth c s.heap [] 0 0 _ _ h.length (ex_hs h) ⟨hx, hbt, hml, hown, fun w hw => hts w (List.mem_cons_of_mem _ hw), fun q => hin.trans q, q4, q5, q6, q7, hb, by omega⟩ ⟨q2, va_S.rf, q3, hl1, by omega, by omega⟩ (ex_en_ok (ex_g b b0) he) ⟨Nat.le_refl _, Nat.le_refl _⟩ ⟨by show h'.length ≤ mc + h.length; omega, by show ex_hs h' ≤ ms + ex_hs h; omega⟩ ?_
  intro H locs cells slots ls pc hH
  have hk : cells ≤ mc := by have := hH.2.2.2.2.1; omega
  have hs : slots ≤ ms := by have := hH.2.2.2.2.2; omega
  refine ⟨fun x hxr hd hret => ?_, fun hrn hd hret => ?_⟩
  · refine W.widen hk hs ?_
    refine W.zret (ty := if M.2.2.2.2.1 = some .int then .int else .boolean) hx hbt ?_ ?_ (fun t ht hW => ⟨by rw [hxr]; rfl, by rw [ht]; exact hH.1, hH.2.1.F ht⟩) hH.2.1.2.2 hd
    · rw [hr]
      rcases hret with h1 | ⟨h1, h2⟩ <;> rw [h1] <;> rfl
    · rcases hret with h1 | ⟨h1, h2 | h2⟩ <;> rw [h1] <;> first | rfl | (rw [h2]; rfl)
  · refine W.widen hk hs ?_
    exact W.vret hx hbt (by rw [hr]; exact hret) (fun t ht hW => ⟨by rw [hrn]; rfl, by rw [ht]; exact hH.1, hH.2.1.F ht⟩) hH.2.1.2.2 hd
set_option maxHeartbeats 1000000 in
theorem ex_main {P : Nat → ex_M} {nw : List Cond} (hP : ex_ok P nw) (l : Launch) (D : va_G) (ca : Nat → ClassId) (b b0 Lx : Nat) (xs : Nat → Int32) (hb0 : b ≤ b0) : ∀ (n d k pc : Nat) (L : ex_L) (st : List Value) (h : ex_H) (r : Option Value) (h' : ex_H), ex_run P n d k pc L st h = some (r, h') → h[0]? = some (.inl (0, Lx, xs)) →
    ∀ (p : Program) (e : Env) (R : Room) (s : State) (m : MethodId) (args : Array Value) (below : List Frame) (meth : Method) (c : Code) (H : Heap) (locs : List Loc) (cells slots : Nat) (Q : State → Prop) (ls : Array Slot) (n0 z0 : Nat), ex_Cx p s m args meth c D ca b b0 Lx xs nw (P k) → ex_Hs D ca b b0 n0 z0 s H locs cells slots h → ex_Ls (ex_g b b0) (P k).2.2.2.1 (P k).2.2.2.2.2.2.1 ls L → d ≤ R.frames ∧ 40 * d ≤ R.locals → h'.length ≤ R.cells + n0 ∧ ex_hs h' ≤ R.slots + z0 → ex_End p l e R s m args below meth c Q D ca b b0 n0 z0 (P k) r h' → W p l e R s m args below meth c H locs cells slots Q (F0 m pc ls (st.map (ex_v (ex_g b b0)))) := by
  obtain ⟨hE, hG, hnw⟩ := hP
  intro n
  induction n with
  | zero => intro d k pc L st h r h' hs; cases hs
  | succ n ih =>
    intro d k pc L st h r h' hs h0 p e R s m args below meth c H locs cells slots Q ls n0 z0 C hH hL hr hc hend
    have hl1 : 1 ≤ h.length := by have := (List.getElem?_eq_some_iff.mp h0).1; omega
    unfold ex_run at hs
    split at hs
    · cases hs
    · rename_i pc' L' st' h1 hst
      have hge := ex_step_ge hst
      have hge2 := ex_run_ge _ _ _ _ _ _ _ _ _ hs
      have h01 : h1[0]? = some (.inl (0, Lx, xs)) := (hge.2.2 hl1).trans h0
      have ih1 := ih d k pc' L' st' h1 r h' hs h01 p e R s m args below meth c
      unfold ex_step at hst
      split at hst
      · cases hst
      · rename_i E hcode
        have hok := hE k pc E hcode
        split at hst
        · rename_i st1 hop
          cases hst
          exact ex_op_ok C.1 C.2.1 C.2.2.2.1 hop (hok.1.plain (ex_op_sw hop)) (fun w hw => C.2.2.2.2.1 w (hok.2.2.1 w hw)) (ih1 H locs cells slots Q ls n0 z0 C hH hL hr hc hend)
        · split at hst
          · rename_i L1 st1 hlo
            cases hst
            exact ex_lo_ok C.1 C.2.1 hlo (hok.1.plain (ex_lo_sw hlo)) hL (fun ls' hL' => ih1 H locs cells slots Q ls' n0 z0 C hH hL' hr hc hend)
          · split at hst
            · rename_i pc1 st1 hgo
              cases hst
              exact ex_go_ok C.1 C.2.1 hgo hok.1 hok.2.1 (ih1 H locs cells slots Q ls n0 z0 C hH hL hr hc hend)
            · split at hst
              · rename_i st1 h2 hhp
                cases hst
                exact ex_hp_ok hG C hL.1 h0 hH hok hhp hr ⟨Nat.le_trans hge2.1 hc.1, Nat.le_trans hge2.2.1 hc.2⟩ (fun H' locs' cells' slots' hH' => ih1 H' locs' cells' slots' Q ls n0 z0 C hH' hL hr hc hend)
              · split at hst
                · cases hst
                · split at hst <;> cases hst
    · rename_i v hst
      cases hs
      unfold ex_step at hst
      split at hst
      · cases hst
      · rename_i E hcode
        have hok := hE k pc E hcode
        split at hst
        · cases hst
        · split at hst
          · cases hst
          · split at hst
            · cases hst
            · split at hst
              · cases hst
              · split at hst
                · rename_i w hrt
                  cases hst
                  obtain ⟨I, a, b', v0⟩ := E
                  unfold ex_rt at hrt
                  dsimp only at hrt hok
                  obtain ⟨o1, -⟩ := hok
                  dsimp only at o1
                  split at hrt
                  · split at hrt
                    · rename_i hret
                      cases hrt
                      exact (hend H locs cells slots ls pc hH).1 _ rfl (o1.plain rfl) hret
                    · cases hrt
                  · split at hrt
                    · rename_i hret
                      cases hrt
                      exact (hend H locs cells slots ls pc hH).2 rfl (o1.plain rfl) hret
                    · cases hrt
                  · cases hrt
                · split at hst <;> cases hst
    · rename_i k' as pc' st1 hst
      split at hs
      · cases hs
      · rename_i d'
        split at hs
        · cases hs
        · rename_i v h1 hrun
          have hge1 := ex_run_ge _ _ _ _ _ _ _ _ _ hrun
          have hge2 := ex_run_ge _ _ _ _ _ _ _ _ _ hs
          have h01 : h1[0]? = some (.inl (0, Lx, xs)) := (hge1.2.2 hl1).trans h0
          have ihc := ih d' k' 0 (ex_en (P k') as) [] h v h1 hrun h0
          have ih1 := ih (d' + 1) k pc' L (v.toList ++ st1) h1 r h' hs h01 p e R s m args below meth c
          unfold ex_step at hst
          split at hst
          · cases hst
          · rename_i E hcode
            have hok := hE k pc E hcode
            split at hst
            · cases hst
            · split at hst
              · cases hst
              · split at hst
                · cases hst
                · split at hst
                  · cases hst
                  · split at hst
                    · cases hst
                    · split at hst
                      · rename_i k2 as2 st2 hcl
                        cases hst
                        have hm1 : h.length + (h1.length - h.length) = h1.length := by have := hge1.1; omega
                        have hm2 : ex_hs h + (ex_hs h1 - ex_hs h) = ex_hs h1 := by have := hge1.2.1; omega
                        have hf : cells + (h1.length - h.length) ≤ R.cells ∧ slots + (ex_hs h1 - ex_hs h) ≤ R.slots := by
                          have := hge1.1; have := hge1.2.1; have := hge2.1; have := hge2.2.1; have := hH.2.2.2.2.1; have := hH.2.2.2.2.2; have := hc.1; have := hc.2
                          omega
                        have kk : ∀ (H1 : Heap) (locs1 : List Loc), va_P D vwCl (ex_w (ex_g b b0) ca h1) H1 → va_S (fun q => b0 < q) s.heap H1 locs1 → W p l e R s m args below meth c H1 locs1 (cells + (h1.length - h.length)) (slots + (ex_hs h1 - ex_hs h)) Q (F0 m (pc + 3) ls ((v.map (ex_v (ex_g b b0))).toList ++ st1.map (ex_v (ex_g b b0)))) := by
                          intro H1 locs1 hP1 hS1
                          have hH1 : ex_Hs D ca b b0 n0 z0 s H1 locs1 (cells + (h1.length - h.length)) (slots + (ex_hs h1 - ex_hs h)) h1 := by
                            have := hH.2.2.2.2.1; have := hH.2.2.2.2.2
                            exact ⟨hP1, hS1, hH.2.2.1, hH.2.2.2.1, by omega, by omega⟩
                          have h9 := ih1 H1 locs1 _ _ Q ls n0 z0 C hH1 hL hr hc hend
                          have e9 : (v.toList ++ st1).map (ex_v (ex_g b b0)) = (v.map (ex_v (ex_g b b0))).toList ++ st1.map (ex_v (ex_g b b0)) := by
                            rw [List.map_append]
                            cases v <;> rfl
                          rw [e9] at h9
                          exact h9
                        obtain ⟨I, a, b', v0⟩ := E
                        obtain ⟨od, -, -, ow⟩ := hok
                        unfold ex_cl at hcl
                        dsimp only at hcl od ow
                        split at hcl
                        · cases hcl
                        · rename_i hg
                          have hg1 : (P a).2.2.2.2.2.1 ≤ st.length := Nat.not_lt.mp fun q => hg (Or.inl q)
                          have hg2 : ((st.drop (P a).2.2.2.2.2.1).map fun v => v.category).sum ≤ 8 := Decidable.byContradiction fun q => hg (Or.inr (Or.inl q))
                          have hg3 : ex_eok (P a) (st.take (P a).2.2.2.2.2.1).reverse = true := Bool.of_not_eq_false fun q => hg (Or.inr (Or.inr q))
                          have hst2 : st = (st.take (P a).2.2.2.2.2.1).reverse.reverse ++ st.drop (P a).2.2.2.2.2.1 := by rw [List.reverse_reverse, List.take_append_drop]
                          have hlen : ((st.take (P a).2.2.2.2.2.1).reverse).length = (P a).2.2.2.2.2.1 := by rw [List.length_reverse, List.length_take]; omega
                          split at hcl
                          · rename_i i
                            split at hcl
                            · rename_i hk
                              cases hcl
                              obtain ⟨hk1, hk2⟩ := hk
                              unfold ex_rcv at hk2
                              split at hk2
                              · rename_i c0 as0 has
                                split at hk2
                                · rename_i ci fs hcell
                                  obtain ⟨hk3, hk4⟩ := Bool.and_eq_true_iff.mp hk2
                                  have hk3 := of_decide_eq_true hk3
                                  have hk4 : (ci : Int) = v0 := of_decide_eq_true hk4
                                  obtain ⟨w1, w2, ⟨cj, w3, w4, w5⟩, w6⟩ := ow
                                  have hcj : ci = cj := by omega
                                  subst hcj
                                  have hmet := ex_met (nw := nw) (P := P) (l := l) (D := D) (ca := ca) (xs := xs) w1 hg3 h0 hb0 hm1 hm2 (fun p e R s m args below meth c H locs cells slots Q ls n0 z0 => ihc p e R s m args below meth c H locs cells slots Q ls n0 z0)
                                  rw [has] at hmet hst2 hlen
                                  exact ex_callV (r := v) w1 w2 C hnw hH hL.1 hmet w6 hk3 hcell ⟨w4, w5⟩ hlen (by rw [List.reverse_cons, List.append_assoc] at hst2; exact hst2) hg2 (od.plain rfl) hr hf kk
                                · cases hk2
                              · cases hk2
                            · cases hcl
                          · rename_i i
                            split at hcl
                            · rename_i hk
                              cases hcl
                              dsimp only at ow
                              rw [if_neg (by omega)] at ow
                              have hmet := ex_met (nw := nw) (P := P) (l := l) (D := D) (ca := ca) (xs := xs) ow.1 hg3 h0 hb0 hm1 hm2 (fun p e R s m args below meth c H locs cells slots Q ls n0 z0 => ihc p e R s m args below meth c H locs cells slots Q ls n0 z0)
                              exact ex_callS (r := v) ow.1 C hnw hH hL.1 hmet ow.2 hlen hst2 hg2 (od.plain rfl) hr hf kk
                            · cases hcl
                          · rename_i i
                            split at hcl
                            · rename_i c0 as0 has
                              split at hcl
                              · rename_i hk
                                cases hcl
                                dsimp only at ow
                                rw [if_neg (by omega)] at ow
                                have hmet := ex_met (nw := nw) (P := P) (l := l) (D := D) (ca := ca) (xs := xs) ow.1 hg3 h0 hb0 hm1 hm2 (fun p e R s m args below meth c H locs cells slots Q ls n0 z0 => ihc p e R s m args below meth c H locs cells slots Q ls n0 z0)
                                rw [has] at hmet hst2 hlen
                                exact ex_callI (r := v) ow.1 ow.2.1 C hnw hH hL.1 hmet ow.2.2 hlen (by rw [List.reverse_cons, List.append_assoc] at hst2; exact hst2) hg2 (od.plain rfl) hr hf kk
                              · cases hcl
                            · cases hcl
                          · cases hcl
                      · cases hst
