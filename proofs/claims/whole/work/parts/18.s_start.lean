/-! the law's walk out of its pure run -/
def lw_P (b : Addr) (xs : List Int32) (args : Array Value) (s : State) : Prop := args = #[.ref b] ∧ s.IntsAt b xs ∧ xs.length ≤ 3072 ∧ (Jvm.Cond.and given_1 narrow_1).before args s = true
def lw_Q (_ : Array Value) (s : State) (o : Outcome) (t : State) : Prop := o = .returned (some (.int 1)) ∧ Framed s o t [] 600000 7302249
def lw_Z (below : List Frame) (a : Array Value) (s : State) : State → Prop := fun t => ∃ o, t.status = .running ∧ Ended t below o ∧ lw_Q a s o t
def R_law : String := "TaughtHoursLaw"
/-- the law's own end, with 1 on the stack, nothing written that was there before, its room as the claim has it -/
theorem lw_ret {p : Program} {l : Launch} {e : Env} {s : State} {m : MethodId} {below : List Frame} {meth : Method} {c : Code} {b : Nat} (hx : p.tables.exec = Jvm.exec) (hb : c.code = code) (hr : meth.sig.returnType = ret) (hlocks : meth.locks = false) {pc : Nat} {H : Heap} {ls : Array Slot} (hdg : decode code pc = .ok (.ireturn, 1)) : W p l e room_1 s m #[Value.ref b] below meth c H [] 600000 7302249 (lw_Z below #[Value.ref b] s) (F0 m pc ls [.int 1]) := by
  intro T hT X
  obtain ⟨fs, hret, hrun, hended, hW, hframe⟩ := X.leave (v := some (.int 1)) (hlocks := hlocks) (fun h => by rw [hr] at h; cases h)
  have hmeth' : T.vm.method? m = some meth := X.method'
  refine ⟨T.setFrames fs, ?_, .returned (some (.int 1)), hrun, hended, rfl, ⟨_, rfl⟩, hW, hframe⟩
  jvm_step X.here [X.here.top, hx, hb, hdg, hmeth', hr, ret, narrow_b1]
  (try refine ⟨rfl, ?_⟩); (try refine ⟨rfl, ?_⟩)
  first | (intro acts; rw [hret _ acts rfl rfl rfl]) | rw [hret _ _ rfl rfl rfl]
  exact Steps.refl _
/-- what holds at the law's entry: the machine, the code, the tables' words (any of lw_tbl by 'hts w (by decide +kernel)'), the script of L ints xs at the cell b, what the Statement gives of the start (any of its parts by flat_of_before) -/
def lw_At (p : Program) (s : State) (m : MethodId) (meth : Method) (c : Code) (b L : Nat) (xs : Nat → Int32) : Prop :=
  p.tables.exec = Jvm.exec ∧ c.code = code ∧ meth.sig.returnType = ret ∧ c.maxLocals = 4 ∧ s.vm.findClass R_law = some m.cls ∧ (∀ w ∈ lw_tbl, w.before #[Value.ref b] s = true) ∧ va_X b L xs s s.heap ∧ b < s.heap.size ∧ meth.locks = false ∧ (Jvm.Cond.and given_1 narrow_1).before #[Value.ref b] s = true
theorem ws_tbl {w : Cond} (h : w ∈ ex_tbl) : w ∈ lw_tbl := (List.mem_filter.mp h).1
set_option maxRecDepth 30000 in
/-- the classes' numbers -/
theorem ws_K {s : State} {a : Array Value} (hts : ∀ w ∈ lw_tbl, w.before a s = true) : ∃ (D : va_G) (ca : Nat → ClassId), va_K D vwCl (ex_tys ca) s ∧ va_AO RX5 s := by
  have h1 : ∀ ci : Nat, ∃ q : ClassId × (Nat → Nat), ci < 8 → u_Kn s (ex_RC ci) (ex_TC ci) (ex_nF ci) q.1 q.2 := by
    intro ci
    by_cases hc : ci < 8
    · obtain ⟨cC, iS, h⟩ := u_known (n := ex_nF ci) hts (fun w hw => ws_tbl (oU ci hc w hw)) (hts _ (ws_tbl (oC ci hc).1))
      exact ⟨(cC, iS), fun _ => h⟩
    · exact ⟨(0, fun _ => 0), fun q => absurd q hc⟩
  have hg := oG
  have ha : ∀ ty : FieldType, Cond.arrayClass ty ∈ ex_tbl → ∃ cA : ClassId, ArrOfT s cA ty ∧ s.vm.findClass ("[" ++ ty.toString) = some cA := by
    intro ty ht
    obtain ⟨c, k, comp, e1, e2, e3⟩ := Cond.arrayClass_spec (hts _ (ws_tbl ht))
    exact ⟨c, fun n z => ⟨fun k h => (by cases h), k, e2, comp, e3⟩, e1⟩
  have hAO : va_AO RX5 s := va_AO.of (hts (.arrayOver (.object RX5)) (List.mem_append_right _ (List.mem_of_getElem? (i := 194) rfl)))
  obtain ⟨c0, a0, f0⟩ := ha _ hg.2.1.1
  obtain ⟨c1, a1, f1⟩ := ha _ hg.2.1.2.1
  obtain ⟨c2, a2, f2⟩ := ha _ hg.2.1.2.2
  obtain ⟨comp, c3, k3, e1, e2, e3, e4, e5⟩ := Cond.arrayOver_spec hAO
  refine ⟨(fun ci => (Classical.choose (h1 ci)).1, fun ci => (Classical.choose (h1 ci)).2), fun t => match t with | 0 => c0 | 1 => c1 | 2 => c2 | _ => c3, ⟨fun ci q hq => ?_, fun k q hq => ?_⟩, hAO⟩
  · by_cases hc : ci < 8
    · have e9 := ex_cl_ok hc
      rw [hq] at e9
      cases e9
      exact Classical.choose_spec (h1 ci) hc
    · rw [List.getElem?_eq_none (by show 8 ≤ ci; omega)] at hq
      cases hq
  · match k, hq with
    | 0, hq => cases hq; exact ⟨a0, f0⟩
    | 1, hq => cases hq; exact ⟨a1, f1⟩
    | 2, hq => cases hq; exact ⟨a2, f2⟩
    | 3, hq => cases hq; exact ⟨fun N z => ⟨(fun k h => by cases h), k3, e3, comp, e4⟩, k3, comp, e3, e4, e1, e5⟩
    | n + 4, hq => cases hq
set_option maxRecDepth 30000 in
theorem ws_nw {s : State} {a : Array Value} (hts : ∀ w ∈ lw_tbl, w.before a s = true) : ∀ w ∈ xN, va_Nw w s := by
  have h1 : ∀ w ∈ xN, w ∈ lw_tbl := by
    have h2 : ∀ w ∈ xN, w ∈ tables_1 := List.forall_mem_cons.mpr ⟨List.mem_of_getElem? (i := 22) rfl, List.forall_mem_cons.mpr ⟨List.mem_of_getElem? (i := 28) rfl, List.forall_mem_cons.mpr ⟨List.mem_of_getElem? (i := 111) rfl, List.forall_mem_cons.mpr ⟨List.mem_of_getElem? (i := 116) rfl, List.forall_mem_cons.mpr ⟨List.mem_of_getElem? (i := 142) rfl, List.forall_mem_cons.mpr ⟨List.mem_of_getElem? (i := 176) rfl, List.forall_mem_cons.mpr ⟨List.mem_of_getElem? (i := 196) rfl, List.forall_mem_cons.mpr ⟨List.mem_of_getElem? (i := 247) rfl, List.forall_mem_cons.mpr ⟨List.mem_of_getElem? (i := 344) rfl, List.forall_mem_cons.mpr ⟨List.mem_of_getElem? (i := 345) rfl, List.forall_mem_cons.mpr ⟨List.mem_of_getElem? (i := 372) rfl, List.forall_mem_cons.mpr ⟨List.mem_of_getElem? (i := 416) rfl, List.forall_mem_cons.mpr ⟨List.mem_of_getElem? (i := 422) rfl, List.forall_mem_cons.mpr ⟨List.mem_of_getElem? (i := 425) rfl, List.forall_mem_cons.mpr ⟨List.mem_of_getElem? (i := 428) rfl, List.forall_mem_cons.mpr ⟨List.mem_of_getElem? (i := 440) rfl, List.forall_mem_cons.mpr ⟨List.mem_of_getElem? (i := 450) rfl, List.forall_mem_cons.mpr ⟨List.mem_of_getElem? (i := 474) rfl, List.forall_mem_cons.mpr ⟨List.mem_of_getElem? (i := 556) rfl, List.forall_mem_cons.mpr ⟨List.mem_of_getElem? (i := 559) rfl, List.forall_mem_cons.mpr ⟨List.mem_of_getElem? (i := 649) rfl, fun _ h => absurd h List.not_mem_nil⟩⟩⟩⟩⟩⟩⟩⟩⟩⟩⟩⟩⟩⟩⟩⟩⟩⟩⟩⟩⟩
    exact fun w hw => List.mem_append_right _ (h2 w hw)
  intro w hw
  obtain ⟨_, _, _, _, rfl⟩ := oN w hw
  exact va_Nw.of rfl (hts _ (h1 _ hw))
theorem ws_of {p : Program} {e : Env} {s : State} {m : MethodId} {below : List Frame} {meth : Method} {c : Code} (l : Launch) {b L : Nat} {xs : Nat → Int32} (hL : L ≤ 3072) (C0 : lw_At p s m meth c b L xs)
    (hgo : Go 2000 171 0 [some (.ref 0), none, none, none] [] [.inl (0, L, xs)] (fun r h' => r = some (.int 1) ∧ h'.length ≤ 100 ∧ ex_hs h' ≤ 40000)) : W p l e room_1 s m #[Value.ref b] below meth c s.heap [] 0 0 (lw_Z below #[Value.ref b] s) (entryFrame m ([Value.ref b] : List Value).toArray 4) := by
  obtain ⟨hx, hb, hr, hml, hown, hts, hX, hbl, hlocks, hgv⟩ := C0
  obtain ⟨D, ca, hK, hAO⟩ := ws_K hts
  obtain ⟨n, r, h', hrun, hr1, hlen, hsz⟩ := hgo
  subst hr1
  have C : ex_Cx p s m #[Value.ref b] meth c D ca b (s.heap.size - 1) L xs xN (xP 171) := ⟨hx, hb, hml, hown, fun w hw => hts w (ws_tbl hw), fun q => absurd (show ("law" : String) = "<init>" from q) (by decide), hK, ws_nw hts, hAO, hX, by omega, by omega⟩
  have e0 : (ex_g b (s.heap.size - 1)) 0 = b := rfl
  have hen := ex_en_ok (M := xP 171) (as := [.ref 0]) (ex_g b (s.heap.size - 1)) rfl
  have e1 : ([Value.ref 0].map (ex_v (ex_g b (s.heap.size - 1)))) = [Value.ref b] := rfl
  rw [e1] at hen
  rw [lg_entry_eq]
  refine ex_main xO l D ca b (s.heap.size - 1) L xs (by omega) n 2000 171 0 _ [] [.inl (0, L, xs)] _ h' hrun rfl p e room_1 s m _ below meth c s.heap [] 0 0 _ _ 1 L C ⟨fun k q hq => ?_, va_S.rf, by omega, Nat.le_refl _, rfl, by unfold ex_hs ex_sz; simp⟩ hen ⟨by decide, by decide⟩ ⟨by show h'.length ≤ 600000 + 1; omega, by show ex_hs h' ≤ 7302249 + L; omega⟩ ?_
  · rw [ex_w_get] at hq
    cases hq
  · intro H locs cells slots ls pc hH
    refine ⟨fun z hz hd hret => ?_, fun q => by cases q⟩
    cases hz
    have h1 := hH.2.2.2.2.1
    have h2 := hH.2.2.2.2.2
    refine va_forget (fun q hq => ?_) (W.widen (k := 600000) (n := 7302249) (by omega) (by omega) (lw_ret hx hb hr hlocks hd))
    have h3 := hH.2.1.2.2 q hq
    have h4 : s.heap.size - 1 < q.base := h3
    omega
