/-! copying, Object's constructor, jumps -/
def ex_sw (I : Instr) : Bool := match I with
  | .tableswitch _ _ _ _ => true | .lookupswitch _ _ => true | _ => false
def ex_okd (cc : ByteArray) (pc : Nat) (I : Instr) : Prop := ∃ len, decode cc pc = .ok (I, len) ∧ (len = ex_len I ∨ ex_sw I = true)
def ex_okg (pc : Nat) (E : ex_I) : Prop := match E.1 with
  | .goto off => (pc : Int) + off = (E.2.1 : Int)
  | .ifCond _ off => (pc : Int) + off = (E.2.1 : Int)
  | .if_icmp _ off => (pc : Int) + off = (E.2.1 : Int)
  | .lookupswitch _ ps => (ps.toList.zip (ps.toList.drop 1)).all (fun (a, next) => a.1 < next.1) = true
  | _ => True
theorem ex_okd.plain {cc : ByteArray} {pc : Nat} {I : Instr} (h : ex_okd cc pc I) (hs : ex_sw I = false) : decode cc pc = .ok (I, ex_len I) := by
  obtain ⟨len, h1, h2 | h2⟩ := h
  · rw [h2] at h1; exact h1
  · rw [hs] at h2; cases h2
theorem ex_jmp_some {pc t : Nat} {off : Int} (h : ex_jmp pc off = some t) : (pc : Int) + off = (t : Int) := by
  unfold ex_jmp at h
  split at h
  · cases h; omega
  · cases h
section EXC
variable {p : Program} {l : Launch} {e : Env} {R : Room} {s : State} {m : MethodId} {args : Array Value} {below : List Frame} {meth : Method} {c : Code} {H : Heap} {locs : List Loc} {cells slots : Nat} {Q : State → Prop}
variable {pc : Nat} {ls : Array Slot} {D : va_G} {ca : Nat → ClassId} {b b0 n0 z0 Lx : Nat} {xs : Nat → Int32} {nw : List Cond} {M : ex_M} {st st' : List Value} {h h' : ex_H}
theorem ex_cpy_ok (C : ex_Cx p s m args meth c D ca b b0 Lx xs nw M) (hls : ls.size = M.2.2.2.1) (hH : ex_Hs D ca b b0 n0 z0 s H locs cells slots h) {i d : Nat} (ho : Cond.methodLink M.1 i arraycopyName ∈ ex_tbl ∧ Cond.native arraycopyName ∈ ex_tbl ∧ Cond.static arraycopyName ∈ ex_tbl ∧ Cond.initialized "java/lang/System" ∈ ex_tbl) (hs : ex_cpy d st h = some (st', h')) (hd : decode M.2.2.1 pc = .ok (.invokestatic i, 3)) (hr : d ≤ R.frames ∧ 40 * d ≤ R.locals)
    (kk : ∀ H' locs', ex_Hs D ca b b0 n0 z0 s H' locs' cells slots h' → W p l e R s m args below meth c H' locs' cells slots Q (F0 m (pc + 3) ls (st'.map (ex_v (ex_g b b0))))) : W p l e R s m args below meth c H locs cells slots Q (F0 m pc ls (st.map (ex_v (ex_g b b0)))) := by
  obtain ⟨hx, hb, hml, hown, hts, hin0, hK, hnw, hAO, hX, hb1, hb2⟩ := C
  unfold ex_cpy at hs
  split at hs
  · rename_i n dp a1 sp a0 st0
    split at hs
    · rename_i N0 f N1 g hc0 hc1
      split at hs
      · rename_i hi
        obtain ⟨i1, i2, i3, i4, i5, i6, i7, i8, i9⟩ := hi
        cases hs
        have hw : nativeFrameWords "java/lang/System" "arraycopy" 5 = 7 := by decide
        refine va_copyi hx hb (hml.trans hls.symm) hown (hts _ ho.1) (hts _ ho.2.1) (hts _ ho.2.2.1) (hts _ ho.2.2.2) hK hH.1 (ex_w_D b b0 ca h) hH.2.1 (a0 - 1) (a1 - 1) 0 0 (ex_w_at i2 hc0) (ex_w_at i3 hc1) rfl rfl rfl i4 i5 i6 i7 i8 (fun _ _ => rfl) (by omega) ?_ hd (fun H1 locs1 hP1 _ hS1 => kk H1 locs1 (hH.set i3 hc1 (y := .inl (0, N1, va_cpy f g sp.toNatClampNeg dp.toNatClampNeg n.toNatClampNeg)) rfl hP1 hS1))
        rw [hw]
        have := ex_v_sum (ex_g b b0) st'
        omega
      · cases hs
    · cases hs
  · cases hs
theorem ex_obj_ok (C : ex_Cx p s m args meth c D ca b b0 Lx xs nw M) (hls : ls.size = M.2.2.2.1) {i d : Nat} (ho : Cond.methodLink M.1 i objectInit ∈ ex_tbl ∧ Cond.instanceMethod objectInit ∈ ex_tbl ∧ Cond.code objectInit ⟨#[0xb1]⟩ 1 none ∈ ex_tbl) (hs : ex_obj d st h = some (st', h')) (hd : decode M.2.2.1 pc = .ok (.invokespecial i, 3)) (hr : d ≤ R.frames ∧ 40 * d ≤ R.locals)
    (kk : h' = h → W p l e R s m args below meth c H locs cells slots Q (F0 m (pc + 3) ls (st'.map (ex_v (ex_g b b0))))) : W p l e R s m args below meth c H locs cells slots Q (F0 m pc ls (st.map (ex_v (ex_g b b0)))) := by
  obtain ⟨hx, hb, hml, hown, hts, hin0, hK, hnw, hAO, hX, hb1, hb2⟩ := C
  unfold ex_obj at hs
  split at hs
  · rename_i a st0
    split at hs
    · rename_i hi
      cases hs
      refine W.objInit hx hb hown (hts _ ho.1) (hts _ ho.2.1) (hts _ ho.2.2) rfl (hls.trans hml.symm) rfl hd (by omega) ?_ (kk rfl)
      have := ex_v_sum (ex_g b b0) st'
      have := hi.2
      show 2 * 0 + _ + 12 ≤ R.locals
      omega
    · cases hs
  · cases hs
theorem ex_go_ok {cc : ByteArray} {g : Nat → Nat} (hx : p.tables.exec = Jvm.exec) (hb : c.code = cc) {E : ex_I} {pc' : Nat} (hs : ex_go pc E st = some (pc', st')) (hd : ex_okd cc pc E.1) (hg : ex_okg pc E)
    (kk : W p l e R s m args below meth c H locs cells slots Q (F0 m pc' ls (st'.map (ex_v g)))) : W p l e R s m args below meth c H locs cells slots Q (F0 m pc ls (st.map (ex_v g))) := by
  obtain ⟨I, a, b', v⟩ := E
  unfold ex_go at hs
  unfold ex_okg at hg
  dsimp only at hs hg hd
  split at hs
  · cases hs
    exact lv_goto hx hb (hd.plain rfl) hg kk
  · rename_i cd off x st0
    cases hs
    have kt : ex_c cd x 0 = true → W p l e R s m args below meth c H locs cells slots Q (F0 m a ls (st'.map (ex_v g))) := fun q => by rw [if_pos q] at kk; exact kk
    have kf : ¬ ex_c cd x 0 = true → W p l e R s m args below meth c H locs cells slots Q (F0 m (pc + 3) ls (st'.map (ex_v g))) := fun q => by rw [if_neg q] at kk; exact kk
    have hd3 := hd.plain rfl
    cases cd
    · exact lv_if_eq hx hb hd3 hg (fun q => kt (decide_eq_true q)) (fun q => kf (fun w => q (of_decide_eq_true w)))
    · exact lv_if_ne hx hb hd3 hg (fun q => kt (decide_eq_true q)) (fun q => kf (fun w => (of_decide_eq_true w) q))
    · exact lv_if_lt hx hb hd3 hg (fun q => kt (decide_eq_true q)) (fun q => kf (fun w => q (of_decide_eq_true w)))
    · exact lv_if_ge hx hb hd3 hg (fun q => kt (decide_eq_true q)) (fun q => kf (fun w => q (of_decide_eq_true w)))
    · exact lv_if_gt hx hb hd3 hg (fun q => kt (decide_eq_true q)) (fun q => kf (fun w => q (of_decide_eq_true w)))
    · exact lv_if_le hx hb hd3 hg (fun q => kt (decide_eq_true q)) (fun q => kf (fun w => q (of_decide_eq_true w)))
  · rename_i cd off y x st0
    cases hs
    have kt : ex_c cd x y = true → W p l e R s m args below meth c H locs cells slots Q (F0 m a ls (st'.map (ex_v g))) := fun q => by rw [if_pos q] at kk; exact kk
    have kf : ¬ ex_c cd x y = true → W p l e R s m args below meth c H locs cells slots Q (F0 m (pc + 3) ls (st'.map (ex_v g))) := fun q => by rw [if_neg q] at kk; exact kk
    have hd3 := hd.plain rfl
    cases cd
    · exact lv_icmp_eq hx hb hd3 hg (fun q => kt (decide_eq_true q)) (fun q => kf (fun w => q (of_decide_eq_true w)))
    · exact lv_icmp_ne hx hb hd3 hg (fun q => kt (decide_eq_true q)) (fun q => kf (fun w => (of_decide_eq_true w) q))
    · exact lv_icmp_lt hx hb hd3 hg (fun q => kt (decide_eq_true q)) (fun q => kf (fun w => q (of_decide_eq_true w)))
    · exact lv_icmp_ge hx hb hd3 hg (fun q => kt (decide_eq_true q)) (fun q => kf (fun w => q (of_decide_eq_true w)))
    · exact lv_icmp_gt hx hb hd3 hg (fun q => kt (decide_eq_true q)) (fun q => kf (fun w => q (of_decide_eq_true w)))
    · exact lv_icmp_le hx hb hd3 hg (fun q => kt (decide_eq_true q)) (fun q => kf (fun w => q (of_decide_eq_true w)))
  · rename_i dflt lo hi offs x st0
    obtain ⟨len, hd1, -⟩ := hd
    split at hs
    · rename_i ho
      obtain ⟨t, h1, h2⟩ := Option.map_eq_some_iff.mp hs
      cases h2
      exact lv_tableOut hx hb hd1 ho (ex_jmp_some h1) kk
    · rename_i ho
      split at hs
      · rename_i off hoff
        obtain ⟨t, h1, h2⟩ := Option.map_eq_some_iff.mp hs
        cases h2
        exact lv_tableIn hx hb hd1 (fun q => ho (Or.inl q)) (fun q => ho (Or.inr q)) hoff (ex_jmp_some h1) kk
      · cases hs
  · rename_i dflt ps x st0
    obtain ⟨len, hd1, -⟩ := hd
    obtain ⟨t, h1, h2⟩ := Option.map_eq_some_iff.mp hs
    cases h2
    exact lv_lookup hx hb hd1 hg rfl (ex_jmp_some h1) kk
  · cases hs
end EXC
