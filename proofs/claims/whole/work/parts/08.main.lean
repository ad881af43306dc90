/-! the run of the pure machine is a run of the machine -/
theorem ex_hs_pos (h : ex_H) (x : ex_E) : ex_hs h ≤ ex_hs (h ++ [x]) := by rw [ex_hs_push]; omega
/-- the heap only grows, and its script stays -/
def ex_ge (h h' : ex_H) : Prop := h.length ≤ h'.length ∧ ex_hs h ≤ ex_hs h' ∧ (1 ≤ h.length → h'[0]? = h[0]?)
theorem ex_ge.rf (h : ex_H) : ex_ge h h := ⟨Nat.le_refl _, Nat.le_refl _, fun _ => rfl⟩
theorem ex_ge.tr {h h1 h2 : ex_H} (a : ex_ge h h1) (b : ex_ge h1 h2) : ex_ge h h2 := ⟨Nat.le_trans a.1 b.1, Nat.le_trans a.2.1 b.2.1, fun q => (b.2.2 (Nat.le_trans q a.1)).trans (a.2.2 q)⟩
theorem ex_ge.set {h : ex_H} {k : Nat} {x y : ex_E} (hk : k ≠ 0) (hx : h[k]? = some x) (hs : ex_sz y = ex_sz x) : ex_ge h (h.set k y) := ⟨by rw [List.length_set]; exact Nat.le_refl _, by rw [ex_hs_set hx hs]; exact Nat.le_refl _, fun _ => by rw [List.getElem?_set, if_neg hk]⟩
theorem ex_ge.push (h : ex_H) (x : ex_E) : ex_ge h (h ++ [x]) := ⟨by simp, ex_hs_pos h x, fun q => List.getElem?_append_left (by omega)⟩
theorem ex_hp_ge {d : Nat} {E : ex_I} {st st' : List Value} {h h' : ex_H} (hs : ex_hp d E st h = some (st', h')) : ex_ge h h' := by
  unfold ex_hp at hs
  split at hs
  · unfold ex_getf at hs
    split at hs
    · split at hs
      · split at hs
        · cases hs
        · split at hs
          · cases hs; exact ex_ge.rf _
          · cases hs
      · cases hs
    · cases hs
  · unfold ex_putf at hs
    split at hs
    · split at hs
      · rename_i hc
        split at hs
        · cases hs
        · rename_i hn; cases hs; exact ex_ge.set (fun q => hn (Or.inl q)) hc rfl
      · cases hs
    · cases hs
  · unfold ex_ald at hs
    split at hs
    · split at hs
      · split at hs
        · cases hs; exact ex_ge.rf _
        · cases hs
      · cases hs
    · cases hs
  · unfold ex_bld at hs
    split at hs
    · split at hs
      · split at hs
        · cases hs; exact ex_ge.rf _
        · cases hs
      · split at hs
        · cases hs; exact ex_ge.rf _
        · cases hs
      · cases hs
    · cases hs
  · unfold ex_qld at hs
    split at hs
    · split at hs
      · split at hs
        · split at hs
          · cases hs; exact ex_ge.rf _
          · cases hs
        · cases hs
      · cases hs
    · cases hs
  · unfold ex_ast at hs
    split at hs
    · split at hs
      · rename_i hc
        split at hs
        · rename_i hn; cases hs; exact ex_ge.set hn.1 hc rfl
        · cases hs
      · cases hs
    · cases hs
  · unfold ex_bst at hs
    split at hs
    · split at hs
      · rename_i hc
        split at hs
        · rename_i hn; cases hs; exact ex_ge.set hn.1 hc rfl
        · cases hs
      · rename_i hc
        split at hs
        · rename_i hn; cases hs; exact ex_ge.set hn.1 hc rfl
        · cases hs
      · cases hs
    · cases hs
  · unfold ex_qst at hs
    split at hs
    · split at hs
      · rename_i hc hv
        split at hs
        · rename_i hn; cases hs; exact ex_ge.set hn.1 hc rfl
        · cases hs
      · cases hs
    · cases hs
  · unfold ex_aln at hs
    split at hs
    · split at hs
      · cases hs; exact ex_ge.rf _
      · split at hs
        · cases hs; exact ex_ge.rf _
        · cases hs
      · cases hs
    · cases hs
  · unfold ex_new at hs
    split at hs
    · cases hs; exact ex_ge.push _ _
    · cases hs
  · unfold ex_nar at hs
    split at hs
    · split at hs
      · split at hs
        · cases hs; exact ex_ge.push _ _
        · cases hs
      · cases hs
    · cases hs
  · unfold ex_nqr at hs
    split at hs
    · split at hs
      · cases hs; exact ex_ge.push _ _
      · cases hs
    · cases hs
  · split at hs
    · unfold ex_cpy at hs
      split at hs
      · split at hs
        · rename_i hc0 hc1
          split at hs
          · rename_i hn; cases hs; exact ex_ge.set hn.2.2.1 hc1 rfl
          · cases hs
        · cases hs
      · cases hs
    · cases hs
  · split at hs
    · unfold ex_obj at hs
      split at hs
      · split at hs
        · cases hs; exact ex_ge.rf _
        · cases hs
      · cases hs
    · cases hs
  · cases hs
theorem ex_step_ge {P : Nat → ex_M} {M : ex_M} {d pc pc' : Nat} {L L' : ex_L} {st st' : List Value} {h h' : ex_H} (hs : ex_step P M d pc L st h = some (.inl (pc', L', st', h'))) : ex_ge h h' := by
  unfold ex_step at hs
  split at hs
  · cases hs
  · split at hs
    · cases hs; exact ex_ge.rf _
    · split at hs
      · cases hs; exact ex_ge.rf _
      · split at hs
        · cases hs; exact ex_ge.rf _
        · split at hs
          · rename_i hh; cases hs; exact ex_hp_ge hh
          · split at hs
            · cases hs
            · split at hs <;> cases hs
theorem ex_run_ge {P : Nat → ex_M} : ∀ (n d k pc : Nat) (L : ex_L) (st : List Value) (h : ex_H) (r : Option Value) (h' : ex_H), ex_run P n d k pc L st h = some (r, h') → ex_ge h h' := by
  intro n
  induction n with
  | zero => intro d k pc L st h r h' hs; cases hs
  | succ n ih =>
    intro d k pc L st h r h' hs
    unfold ex_run at hs
    split at hs
    · cases hs
    · rename_i hst
      exact (ex_step_ge hst).tr (ih _ _ _ _ _ _ _ _ hs)
    · cases hs; exact ex_ge.rf _
    · split at hs
      · cases hs
      · split at hs
        · cases hs
        · rename_i hr
          exact (ih _ _ _ _ _ _ _ _ hr).tr (ih _ _ _ _ _ _ _ _ hs)
