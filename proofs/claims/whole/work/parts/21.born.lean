/-! the constructors, by computing -/
theorem go_of {n d k pc : Nat} {L : ex_L} {st : List Value} {h h' : ex_H} {r : Option Value} (hr : ex_run xP n d k pc L st h = some (r, h')) (Q : Option Value → ex_H → Prop) : Go d k pc L st h Q = Q r h' := by
  apply propext
  constructor
  · rintro ⟨n2, r2, h2, hr2, hq⟩
    have e1 := ex_run_le (Nat.le_max_left n n2) hr
    have e2 := ex_run_le (Nat.le_max_right n n2) hr2
    rw [e1] at e2
    cases e2
    exact hq
  · exact fun hq => ⟨n, r, h', hr, hq⟩
/-- a run up to a place -/
def ex_seg (t : Nat) : Nat → Nat → Nat → Nat → ex_L → List Value → ex_H → Option (ex_L × List Value × ex_H)
  | 0, _, _, _, _, _, _ => none
  | n + 1, d, k, pc, L, st, h => if pc = t then some (L, st, h) else match ex_step xP (xP k) d pc L st h with
    | some (.inl (pc', L', st', h')) => ex_seg t n d k pc' L' st' h'
    | some (.inr (.inr (k', as, pc', st'))) => match d with
      | 0 => none
      | d' + 1 => match ex_run xP n d' k' 0 (ex_en (xP k') as) [] h with
        | none => none
        | some (v, h') => ex_seg t n (d' + 1) k pc' L (ap v st') h'
    | _ => none
theorem ex_seg_ok {t : Nat} : ∀ (n d k pc : Nat) (L : ex_L) (st : List Value) (h : ex_H) (L' : ex_L) (st' : List Value) (h' : ex_H), ex_seg t n d k pc L st h = some (L', st', h') → ∀ Q, Go d k pc L st h Q = Go d k t L' st' h' Q := by
  intro n
  induction n with
  | zero => intro d k pc L st h L' st' h' hs; cases hs
  | succ n ih =>
    intro d k pc L st h L' st' h' hs Q
    unfold ex_seg at hs
    split at hs
    · rename_i hpc
      cases hs
      rw [hpc]
    · split at hs
      · rename_i hst
        rw [go_inl hst]
        exact ih _ _ _ _ _ _ _ _ _ hs Q
      · rename_i hst
        split at hs
        · cases hs
        · split at hs
          · cases hs
          · rename_i hr
            rw [go_call hst, go_of hr]
            exact ih _ _ _ _ _ _ _ _ _ hs Q
      · cases hs
def M0 : Nat → Nat → Int32 := fun c => match c with
  | 2 => upd (fun _ => 0) 2 1
  | 15 => upd (fun _ => 0) 2 1
  | 45 => upd (fun _ => 0) 1 (-1)
  | 47 => upd (fun _ => 0) 1 (-1)
  | 49 => upd (fun _ => 0) 1 (-1)
  | 51 => upd (fun _ => 0) 1 (-1)
  | 53 => upd (fun _ => 0) 8 1
  | 72 => upd (upd (upd (upd (fun _ => 0) 0 (-1)) 1 (-1)) 2 (-1)) 3 (-1)
  | _ => fun _ => 0
set_option maxRecDepth 100000 in
set_option maxHeartbeats 4000000 in
theorem born_run (lx : Nat) (xs : Nat → Int32) : ex_seg 18 1000 2000 171 0 [some (.ref 0), none, none, none] [] [.inl (0, lx, xs)] = some ([some (.ref 0), some (.ref 1), some (.ref 53), some (.int 0)], [], HP lx xs M0) := by
  rfl
