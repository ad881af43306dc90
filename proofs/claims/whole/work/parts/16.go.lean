/-! runs without fuel: Go, and its rows as equations -/
theorem ex_run_succ {P : Nat → ex_M} : ∀ (n d k pc : Nat) (L : ex_L) (st : List Value) (h : ex_H) (x : Option Value × ex_H), ex_run P n d k pc L st h = some x → ex_run P (n + 1) d k pc L st h = some x := by
  intro n
  induction n with
  | zero => intro d k pc L st h x hs; cases hs
  | succ n ih =>
    intro d k pc L st h x hs
    unfold ex_run at hs ⊢
    cases hst : ex_step P (P k) d pc L st h with
    | none => rw [hst] at hs; cases hs
    | some q =>
      rw [hst] at hs
      match q, hs with
      | .inl (pc', L', st', h'), hs => exact ih _ _ _ _ _ _ _ hs
      | .inr (.inl v), hs => exact hs
      | .inr (.inr (k', as, pc', st')), hs =>
        dsimp only at hs ⊢
        cases d with
        | zero => cases hs
        | succ d =>
          dsimp only at hs ⊢
          cases hr : ex_run P n d k' 0 (ex_en (P k') as) [] h with
          | none => rw [hr] at hs; cases hs
          | some y =>
            rw [hr] at hs
            rw [ih _ _ _ _ _ _ _ hr]
            obtain ⟨v, h1⟩ := y
            exact ih _ _ _ _ _ _ _ hs
theorem ex_run_le {P : Nat → ex_M} {n m d k pc : Nat} {L : ex_L} {st : List Value} {h : ex_H} {x : Option Value × ex_H} (hnm : n ≤ m) (hs : ex_run P n d k pc L st h = some x) : ex_run P m d k pc L st h = some x := by
  induction hnm with
  | refl => exact hs
  | step _ ih => exact ex_run_succ _ _ _ _ _ _ _ _ ih
/-- the run from here ends, and Q holds of its answer and heap -/
def Go (d k pc : Nat) (L : ex_L) (st : List Value) (h : ex_H) (Q : Option Value → ex_H → Prop) : Prop := ∃ n r h', ex_run xP n d k pc L st h = some (r, h') ∧ Q r h'
abbrev cd (k pc : Nat) : Option ex_I := (xP k).2.2.2.2.2.2.2 pc
def ap (v : Option Value) (st : List Value) : List Value := v.toList ++ st
theorem ap_some (x : Value) (st : List Value) : ap (some x) st = x :: st := rfl
theorem ap_none (st : List Value) : ap none st = st := rfl
section GO
variable {d k pc : Nat} {L : ex_L} {st : List Value} {h : ex_H} {Q : Option Value → ex_H → Prop}
theorem go_inl {pc' : Nat} {L' : ex_L} {st' : List Value} {h' : ex_H} (hs : ex_step xP (xP k) d pc L st h = some (.inl (pc', L', st', h'))) : Go d k pc L st h Q = Go d k pc' L' st' h' Q := by
  apply propext
  constructor
  · rintro ⟨n, r, h1, hr, hq⟩
    cases n with
    | zero => cases hr
    | succ n =>
      unfold ex_run at hr
      rw [hs] at hr
      exact ⟨n, r, h1, hr, hq⟩
  · rintro ⟨n, r, h1, hr, hq⟩
    refine ⟨n + 1, r, h1, ?_, hq⟩
    unfold ex_run
    rw [hs]
    exact hr
theorem go_ret {v : Option Value} (hs : ex_step xP (xP k) d pc L st h = some (.inr (.inl v))) : Go d k pc L st h Q = Q v h := by
  apply propext
  constructor
  · rintro ⟨n, r, h1, hr, hq⟩
    cases n with
    | zero => cases hr
    | succ n =>
      unfold ex_run at hr
      rw [hs] at hr
      cases hr
      exact hq
  · intro hq
    refine ⟨1, v, h, ?_, hq⟩
    unfold ex_run
    rw [hs]
theorem go_none (hs : ex_step xP (xP k) d pc L st h = none) : Go d k pc L st h Q = False := by
  apply propext
  constructor
  · rintro ⟨n, r, h1, hr, hq⟩
    cases n with
    | zero => cases hr
    | succ n =>
      unfold ex_run at hr
      rw [hs] at hr
      cases hr
  · exact False.elim
theorem go_call {k' pc' : Nat} {as st' : List Value} (hs : ex_step xP (xP k) (d + 1) pc L st h = some (.inr (.inr (k', as, pc', st')))) : Go (d + 1) k pc L st h Q = Go d k' 0 (ex_en (xP k') as) [] h (fun v h' => Go (d + 1) k pc' L (ap v st') h' Q) := by
  apply propext
  constructor
  · rintro ⟨n, r, h1, hr, hq⟩
    cases n with
    | zero => cases hr
    | succ n =>
      unfold ex_run at hr
      rw [hs] at hr
      dsimp only at hr
      cases hc : ex_run xP n d k' 0 (ex_en (xP k') as) [] h with
      | none => rw [hc] at hr; cases hr
      | some y =>
        rw [hc] at hr
        obtain ⟨v, h2⟩ := y
        exact ⟨n, v, h2, hc, n, r, h1, hr, hq⟩
  · rintro ⟨n, v, h2, hc, n2, r, h1, hr, hq⟩
    refine ⟨max n n2 + 1, r, h1, ?_, hq⟩
    unfold ex_run
    rw [hs]
    dsimp only
    rw [ex_run_le (Nat.le_max_left n n2) hc]
    exact ex_run_le (Nat.le_max_right n n2) hr
/-- stack -/
theorem go_op {E : ex_I} {st' : List Value} (hc : cd k pc = some E) (ho : ex_op E.1 E.2.2.2 st = some st') : Go d k pc L st h Q = Go d k (pc + ex_len E.1) L st' h Q := go_inl (by unfold ex_step; rw [show (xP k).2.2.2.2.2.2.2 pc = some E from hc]; dsimp only; rw [ho])
theorem go_lo {E : ex_I} {L' : ex_L} {st' : List Value} (hc : cd k pc = some E) (h1 : ex_op E.1 E.2.2.2 st = none) (ho : ex_lo (xP k) E L st = some (L', st')) : Go d k pc L st h Q = Go d k (pc + ex_len E.1) L' st' h Q := go_inl (by unfold ex_step; rw [show (xP k).2.2.2.2.2.2.2 pc = some E from hc]; dsimp only; rw [h1, ho])
theorem go_go {E : ex_I} {pc' : Nat} {st' : List Value} (hc : cd k pc = some E) (h1 : ex_op E.1 E.2.2.2 st = none) (h2 : ex_lo (xP k) E L st = none) (ho : ex_go pc E st = some (pc', st')) : Go d k pc L st h Q = Go d k pc' L st' h Q := go_inl (by unfold ex_step; rw [show (xP k).2.2.2.2.2.2.2 pc = some E from hc]; dsimp only; rw [h1, h2, ho])
theorem go_hp {E : ex_I} {st' : List Value} {h' : ex_H} (hc : cd k pc = some E) (h1 : ex_op E.1 E.2.2.2 st = none) (h2 : ex_lo (xP k) E L st = none) (h3 : ex_go pc E st = none) (ho : ex_hp d E st h = some (st', h')) : Go d k pc L st h Q = Go d k (pc + ex_len E.1) L st' h' Q := go_inl (by unfold ex_step; rw [show (xP k).2.2.2.2.2.2.2 pc = some E from hc]; dsimp only; rw [h1, h2, h3, ho])
theorem go_rt {E : ex_I} {v : Option Value} (hc : cd k pc = some E) (h1 : ex_op E.1 E.2.2.2 st = none) (h2 : ex_lo (xP k) E L st = none) (h3 : ex_go pc E st = none) (h4 : ex_hp d E st h = none) (ho : ex_rt (xP k) E st = some v) : Go d k pc L st h Q = Q v h := go_ret (by unfold ex_step; rw [show (xP k).2.2.2.2.2.2.2 pc = some E from hc]; dsimp only; rw [h1, h2, h3, h4, ho])
theorem go_cl {E : ex_I} {k' : Nat} {as st' : List Value} (hc : cd k pc = some E) (h1 : ex_op E.1 E.2.2.2 st = none) (h2 : ex_lo (xP k) E L st = none) (h3 : ex_go pc E st = none) (h4 : ex_hp (d + 1) E st h = none) (h5 : ex_rt (xP k) E st = none) (ho : ex_cl xP E st h = some (k', as, st')) : Go (d + 1) k pc L st h Q = Go d k' 0 (ex_en (xP k') as) [] h (fun v h' => Go (d + 1) k (pc + 3) L (ap v st') h' Q) := go_call (by unfold ex_step; rw [show (xP k).2.2.2.2.2.2.2 pc = some E from hc]; dsimp only; rw [h1, h2, h3, h4, h5, ho])
theorem go_bad {E : ex_I} (hc : cd k pc = some E) (h1 : ex_op E.1 E.2.2.2 st = none) (h2 : ex_lo (xP k) E L st = none) (h3 : ex_go pc E st = none) (h4 : ex_hp d E st h = none) (h5 : ex_rt (xP k) E st = none) (ho : ex_cl xP E st h = none) : Go d k pc L st h Q = False := go_none (by unfold ex_step; rw [show (xP k).2.2.2.2.2.2.2 pc = some E from hc]; dsimp only; rw [h1, h2, h3, h4, h5, ho])
theorem go_ite {c : Prop} [Decidable c] {a b : Nat} : Go d k (if c then a else b) L st h Q = (if c then Go d k a L st h Q else Go d k b L st h Q) := by split <;> rfl
end GO
/-- the conditions of jumps, as '=' and '<' alone -/
theorem gc_eq {α : Type} (x y : Int32) (a b : α) : (if ex_c .eq x y then a else b) = if x = y then a else b := by
  unfold ex_c; by_cases q : x = y <;> simp [q]
theorem gc_ne {α : Type} (x y : Int32) (a b : α) : (if ex_c .ne x y then a else b) = if x = y then b else a := by
  unfold ex_c; by_cases q : x = y <;> simp [q]
theorem gc_lt {α : Type} (x y : Int32) (a b : α) : (if ex_c .lt x y then a else b) = if x < y then a else b := by
  unfold ex_c; by_cases q : x < y <;> simp [q]
theorem gc_gt {α : Type} (x y : Int32) (a b : α) : (if ex_c .gt x y then a else b) = if y < x then a else b := by
  unfold ex_c; by_cases q : y < x <;> simp [q]
theorem gc_ge {α : Type} (x y : Int32) (a b : α) : (if ex_c .ge x y then a else b) = if x < y then b else a := by
  unfold ex_c
  by_cases q : x < y
  · rw [if_pos q, if_neg]; intro w; exact (Int32.not_le.mpr q) (of_decide_eq_true w)
  · rw [if_neg q, if_pos]; exact decide_eq_true (Int32.not_lt.mp q)
theorem gc_le {α : Type} (x y : Int32) (a b : α) : (if ex_c .le x y then a else b) = if y < x then b else a := by
  unfold ex_c
  by_cases q : y < x
  · rw [if_pos q, if_neg]; intro w; exact (Int32.not_le.mpr q) (of_decide_eq_true w)
  · rw [if_neg q, if_pos]; exact decide_eq_true (Int32.not_lt.mp q)
section GOB
variable {d k pc a : Nat} {e : Nat × Int} {L : ex_L} {st : List Value} {h : ex_H} {Q : Option Value → ex_H → Prop} {off : Int} {x y : Int32}
theorem go_goto (hc : cd k pc = some (.goto off, a, e)) : Go d k pc L st h Q = Go d k a L st h Q := go_go hc rfl rfl rfl
theorem go_ifeq (hc : cd k pc = some (.ifCond .eq off, a, e)) : Go d k pc L (.int x :: st) h Q = if x = 0 then Go d k a L st h Q else Go d k (pc + 3) L st h Q := by rw [go_go hc rfl rfl rfl, gc_eq, go_ite]
theorem go_ifne (hc : cd k pc = some (.ifCond .ne off, a, e)) : Go d k pc L (.int x :: st) h Q = if x = 0 then Go d k (pc + 3) L st h Q else Go d k a L st h Q := by rw [go_go hc rfl rfl rfl, gc_ne, go_ite]
theorem go_iflt (hc : cd k pc = some (.ifCond .lt off, a, e)) : Go d k pc L (.int x :: st) h Q = if x < 0 then Go d k a L st h Q else Go d k (pc + 3) L st h Q := by rw [go_go hc rfl rfl rfl, gc_lt, go_ite]
theorem go_ifge (hc : cd k pc = some (.ifCond .ge off, a, e)) : Go d k pc L (.int x :: st) h Q = if x < 0 then Go d k (pc + 3) L st h Q else Go d k a L st h Q := by rw [go_go hc rfl rfl rfl, gc_ge, go_ite]
theorem go_ifgt (hc : cd k pc = some (.ifCond .gt off, a, e)) : Go d k pc L (.int x :: st) h Q = if 0 < x then Go d k a L st h Q else Go d k (pc + 3) L st h Q := by rw [go_go hc rfl rfl rfl, gc_gt, go_ite]
theorem go_ifle (hc : cd k pc = some (.ifCond .le off, a, e)) : Go d k pc L (.int x :: st) h Q = if 0 < x then Go d k (pc + 3) L st h Q else Go d k a L st h Q := by rw [go_go hc rfl rfl rfl, gc_le, go_ite]
theorem go_iceq (hc : cd k pc = some (.if_icmp .eq off, a, e)) : Go d k pc L (.int y :: .int x :: st) h Q = if x = y then Go d k a L st h Q else Go d k (pc + 3) L st h Q := by rw [go_go hc rfl rfl rfl, gc_eq, go_ite]
theorem go_icne (hc : cd k pc = some (.if_icmp .ne off, a, e)) : Go d k pc L (.int y :: .int x :: st) h Q = if x = y then Go d k (pc + 3) L st h Q else Go d k a L st h Q := by rw [go_go hc rfl rfl rfl, gc_ne, go_ite]
theorem go_iclt (hc : cd k pc = some (.if_icmp .lt off, a, e)) : Go d k pc L (.int y :: .int x :: st) h Q = if x < y then Go d k a L st h Q else Go d k (pc + 3) L st h Q := by rw [go_go hc rfl rfl rfl, gc_lt, go_ite]
theorem go_icge (hc : cd k pc = some (.if_icmp .ge off, a, e)) : Go d k pc L (.int y :: .int x :: st) h Q = if x < y then Go d k (pc + 3) L st h Q else Go d k a L st h Q := by rw [go_go hc rfl rfl rfl, gc_ge, go_ite]
theorem go_icgt (hc : cd k pc = some (.if_icmp .gt off, a, e)) : Go d k pc L (.int y :: .int x :: st) h Q = if y < x then Go d k a L st h Q else Go d k (pc + 3) L st h Q := by rw [go_go hc rfl rfl rfl, gc_gt, go_ite]
theorem go_icle (hc : cd k pc = some (.if_icmp .le off, a, e)) : Go d k pc L (.int y :: .int x :: st) h Q = if y < x then Go d k (pc + 3) L st h Q else Go d k a L st h Q := by rw [go_go hc rfl rfl rfl, gc_le, go_ite]
end GOB
