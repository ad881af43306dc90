section EXW
variable {p : Program} {l : Launch} {e : Env} {R : Room} {s : State} {m : MethodId} {args : Array Value} {below : List Frame} {meth : Method} {c : Code} {H : Heap} {locs : List Loc} {cells slots : Nat} {Q : State → Prop}
variable {cc : ByteArray} {pc : Nat} {ls : Array Slot} {g : Nat → Nat}
/-- what a constant's instruction reads of the pool -/
def ex_kw (own : String) (I : Instr) (v : Int) : Option Cond := match I with
  | .ldc i => some (.constant own i (Int32.ofInt v))
  | .ldc_w i => some (.constant own i (Int32.ofInt v))
  | .ldc2_w i => some (.constantLong own i (Int64.ofInt v))
  | _ => none
set_option maxHeartbeats 1000000 in
theorem ex_op_ok (hx : p.tables.exec = Jvm.exec) (hb : c.code = cc) {own : String} (hown : s.vm.findClass own = some m.cls) {I : Instr} {v : Int} {st st' : List Value} (h : ex_op I v st = some st') (hd : decode cc pc = .ok (I, ex_len I)) (hk : ∀ w, ex_kw own I v = some w → w.before args s = true)
    (kk : W p l e R s m args below meth c H locs cells slots Q (F0 m (pc + ex_len I) ls (st'.map (ex_v g)))) : W p l e R s m args below meth c H locs cells slots Q (F0 m pc ls (st.map (ex_v g))) := by
  unfold ex_op at h
  split at h
  · cases h; exact lv_iconst hx hb hd rfl kk
  · cases h; exact lv_bipush hx hb hd rfl kk
  · cases h; exact lv_sipush hx hb hd rfl kk
  · cases h; exact lv_ldc hx hb hown (hk _ rfl) hd kk
  · cases h; exact lv_ldcw hx hb hown (hk _ rfl) hd kk
  · cases h; exact lv_lconst hx hb hd rfl kk
  · cases h; exact lv_ldc2 hx hb hown (hk _ rfl) hd kk
  · cases h; exact lv_iadd hx hb hd kk
  · cases h; exact lv_isub hx hb hd kk
  · cases h; exact lv_imul hx hb hd kk
  · cases h; exact lv_iand hx hb hd kk
  · cases h; exact lv_ior hx hb hd kk
  · cases h; exact lv_ixor hx hb hd kk
  · cases h; exact lv_ishl hx hb hd kk
  · cases h; exact lv_ishr hx hb hd kk
  · cases h; exact lv_iushr hx hb hd rfl kk
  · split at h
    · cases h
    · cases h; exact lv_idiv hx hb hd (by assumption) kk
  · split at h
    · cases h
    · cases h; exact lv_irem hx hb hd (by assumption) kk
  · cases h; exact lv_ineg hx hb hd kk
  · cases h; exact lv_i2b hx hb hd rfl kk
  · cases h; exact lv_i2s hx hb hd rfl kk
  · cases h; exact lv_i2l hx hb hd rfl kk
  · cases h; exact lv_l2i hx hb hd rfl kk
  · cases h; exact lv_ladd hx hb hd kk
  · cases h; exact lv_lsub hx hb hd kk
  · cases h; exact lv_lmul hx hb hd kk
  · cases h; exact lv_land hx hb hd kk
  · cases h; exact lv_lor hx hb hd kk
  · cases h; exact lv_lshl hx hb hd rfl kk
  · cases h; exact lv_lshr hx hb hd rfl kk
  · cases h; exact W.lcmp hx hb hd kk
  · split at h
    · cases h; exact lv_dup hx hb hd (by rw [ex_v_cat]; assumption) kk
    · cases h
  · split at h
    · cases h; exact lv_pop hx hb hd (by rw [ex_v_cat]; assumption) kk
    · cases h
  · split at h
    · rename_i hc; cases h; exact lv_dup_x1 hx hb hd (by rw [ex_v_cat]; exact hc.1) (by rw [ex_v_cat]; exact hc.2) kk
    · cases h
  · split at h
    · rename_i hc; cases h; exact lv_dup2_11 hx hb hd (by rw [ex_v_cat]; exact hc.1) (by rw [ex_v_cat]; exact hc.2) kk
    · cases h
  · cases h
theorem ex_lo_ok (hx : p.tables.exec = Jvm.exec) (hb : c.code = cc) {M : ex_M} {E : ex_I} {L L' : ex_L} {st st' : List Value} (h : ex_lo M E L st = some (L', st')) (hd : decode cc pc = .ok (E.1, ex_len E.1)) (hL : ex_Ls g M.2.2.2.1 M.2.2.2.2.2.2.1 ls L)
    (kk : ∀ ls' : Array Slot, ex_Ls g M.2.2.2.1 M.2.2.2.2.2.2.1 ls' L' → W p l e R s m args below meth c H locs cells slots Q (F0 m (pc + ex_len E.1) ls' (st'.map (ex_v g)))) : W p l e R s m args below meth c H locs cells slots Q (F0 m pc ls (st.map (ex_v g))) := by
  obtain ⟨I, a, b, v0⟩ := E
  unfold ex_lo at h
  split at h
  · rename_i i k hik
    split at h
    · rename_i v hv
      split at h
      · rename_i hkd
        cases h
        have hv2 := hL.2.2.2.1 _ _ (ex_ld_some hv)
        have kk := kk ls hL
        dsimp only at hik hd kk
        unfold ex_lds at hik
        split at hik <;> cases hik <;> unfold ex_isk at hkd <;> split at hkd <;> first | (cases hkd; done) | exact lv_iload hx hb hd hv2 kk | exact lv_iload_n hx hb hd rfl hv2 kk | exact lv_aload hx hb hd hv2 kk | exact lv_aload_n hx hb hd rfl hv2 kk | exact lv_lload hx hb hd hv2 kk | exact lv_lload_n hx hb hd rfl hv2 kk
      · cases h
    · cases h
  · split at h
    · rename_i i k hik
      split at h
      · rename_i v st0
        split at h
        · rename_i hkd
          obtain ⟨L1, hL1, he⟩ := Option.map_eq_some_iff.mp h
          cases he
          obtain ⟨q1, q2, q3, q4, rfl⟩ := ex_st_some hL1
          have q1 : i < M.2.2.2.1 := by rw [← hL.2.1]; exact q1
          dsimp only at hik hd kk
          unfold ex_sts at hik
          split at hik <;> cases hik <;> unfold ex_isk at hkd <;> split at hkd <;> first | (cases hkd; done) | exact lv_istore hx hb hd hL.has q1 rfl (fun ls' h' => kk ls' (hL.put q2 q3 q4 h')) | exact lv_istore_n hx hb hd rfl hL.has q1 rfl (fun ls' h' => kk ls' (hL.put q2 q3 q4 h')) | exact lv_astore hx hb hd hL.has q1 rfl (fun ls' h' => kk ls' (hL.put q2 q3 q4 h')) | exact lv_astore_n hx hb hd rfl hL.has q1 rfl (fun ls' h' => kk ls' (hL.put q2 q3 q4 h'))
        · cases h
      · cases h
    · split at h
      · rename_i i n hI
        dsimp only at hI
        subst hI
        split at h
        · rename_i x hv
          obtain ⟨L1, hL1, he⟩ := Option.map_eq_some_iff.mp h
          cases he
          obtain ⟨q1, q2, q3, q4, rfl⟩ := ex_st_some hL1
          have q1 : i < M.2.2.2.1 := by rw [← hL.2.1]; exact q1
          obtain ⟨k, hk⟩ := List.getElem?_of_mem (ex_ps_mem (g := g) (ex_ld_some hv))
          exact lv_iinc hx hb hd hL.has hk rfl q1 rfl (fun ls' h' => kk ls' (hL.put (v := .int (x + Int32.ofInt n)) q2 q3 q4 h'))
        · cases h
      · cases h
end EXW
