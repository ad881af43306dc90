/-! the check of a method's code as data, by computing -/
def ex_tq (i : Nat) (w : Cond) : Bool := decide (tables_1[i]? = some w) && goodWord w
theorem ex_tq_ok {i : Nat} {w : Cond} (h : ex_tq i w = true) : w ∈ ex_tbl := by
  obtain ⟨h1, h2⟩ := Bool.and_eq_true_iff.mp h
  exact ex_tb i (of_decide_eq_true h1) h2
def ex_okdB (cc : ByteArray) (pc : Nat) (I : Instr) : Bool := match decode cc pc with
  | .ok (J, n) => decide (J = I) && (decide (n = ex_len I) || ex_sw I)
  | .error _ => false
theorem ex_okdB_ok {cc : ByteArray} {pc : Nat} {I : Instr} (h : ex_okdB cc pc I = true) : ex_okd cc pc I := by
  unfold ex_okdB at h
  split at h
  · rename_i J n hd
    obtain ⟨h1, h2⟩ := Bool.and_eq_true_iff.mp h
    have h1 := of_decide_eq_true h1
    subst h1
    refine ⟨n, hd, ?_⟩
    rcases (Bool.or_eq_true_iff.mp h2) with h3 | h3
    · exact Or.inl (of_decide_eq_true h3)
    · exact Or.inr h3
  · cases h
def ex_okgB (pc : Nat) (E : ex_I) : Bool := match E.1 with
  | .goto off => decide ((pc : Int) + off = (E.2.1 : Int))
  | .ifCond _ off => decide ((pc : Int) + off = (E.2.1 : Int))
  | .if_icmp _ off => decide ((pc : Int) + off = (E.2.1 : Int))
  | .lookupswitch _ ps => (ps.toList.zip (ps.toList.drop 1)).all (fun (a, next) => a.1 < next.1)
  | _ => true
theorem ex_okgB_ok {pc : Nat} {E : ex_I} (h : ex_okgB pc E = true) : ex_okg pc E := by
  obtain ⟨I, a, b, v⟩ := E
  unfold ex_okgB at h
  unfold ex_okg
  dsimp only at h ⊢
  split at h <;> first | exact of_decide_eq_true h | exact h | skip
  split <;> first | exact True.intro | (exfalso; simp_all; done)
def ex_oktB (own name : String) (ci k : Nat) (t : Int) : Bool := (decide (t = 0) && decide (ex_tyF ci k = .int) && decide ((ex_TC ci k).2.2.2 = false)) || (decide (t = 1) && decide (ex_tyF ci k = .boolean) && decide ((ex_TC ci k).2.2.2 = false)) || (decide (t = 2) && (match ex_tyF ci k with | .object _ => true | .array _ => true | _ => false) && decide ((ex_TC ci k).2.2.2 = true) && decide (name = "<init>") && decide ((ex_TC ci k).1 = own))
theorem ex_oktB_ok {own name : String} {ci k : Nat} {t : Int} (h : ex_oktB own name ci k t = true) : ex_okt own name ci k t := by
  unfold ex_oktB at h
  simp only [Bool.or_eq_true, Bool.and_eq_true, decide_eq_true_eq] at h
  rcases h with (⟨⟨h1, h2⟩, h3⟩ | ⟨⟨h1, h2⟩, h3⟩) | ⟨⟨⟨⟨h1, h2⟩, h3⟩, h4⟩, h5⟩
  · exact Or.inl ⟨h1, h2, h3⟩
  · exact Or.inr (Or.inl ⟨h1, h2, h3⟩)
  · refine Or.inr (Or.inr ⟨h1, ?_, h3, h4, h5⟩)
    split at h2
    · rename_i n hn; exact Or.inl ⟨n, hn⟩
    · rename_i n hn; exact Or.inr ⟨n, hn⟩
    · cases h2
def ex_fB (M : ex_M) (hint i : Nat) (E : ex_I) : Bool := decide (E.2.1 < 8) && decide (E.2.2.1 < ex_nF E.2.1) && ex_tq hint (.fieldLink M.1 i (ex_TC E.2.1 E.2.2.1).1 (ex_TC E.2.1 E.2.2.1).2.1 (ex_TC E.2.1 E.2.2.1).2.2.1)
theorem ex_fB_ok {M : ex_M} {hint i : Nat} {E : ex_I} (h : ex_fB M hint i E = true) : ex_okf M.1 i E.2.1 E.2.2.1 := by
  unfold ex_fB at h
  obtain ⟨h1, h3⟩ := Bool.and_eq_true_iff.mp h
  obtain ⟨h1, h2⟩ := Bool.and_eq_true_iff.mp h1
  exact ⟨of_decide_eq_true h1, of_decide_eq_true h2, ex_tq_ok h3⟩
def ex_lB (P : Nat → ex_M) (nw : List Cond) (M : ex_M) (hint i : Nat) (E : ex_I) : Bool := match E.2.2.1 with
  | 0 => ex_tq hint (.methodLink M.1 i (P E.2.1).2.1)
  | 1 => decide (nw[hint]? = some (.methodLinkNest M.1 i (P E.2.1).2.1 RX6))
  | _ => false
theorem ex_lB_ok {P : Nat → ex_M} {nw : List Cond} {M : ex_M} {hint i : Nat} {E : ex_I} (h : ex_lB P nw M hint i E = true) : E.2.2.1 ≤ 1 ∧ ex_lk nw M.1 i (P E.2.1).2.1 := by
  unfold ex_lB at h
  split at h
  · rename_i q; exact ⟨by omega, Or.inl (ex_tq_ok h)⟩
  · rename_i q; exact ⟨by omega, Or.inr ⟨_, List.mem_of_getElem? (of_decide_eq_true h)⟩⟩
  · cases h
def ex_wB (P : Nat → ex_M) (nw : List Cond) (xV xS xI : List Nat) (M : ex_M) (hint : Nat) (E : ex_I) : Bool := match E.1 with
  | .ldc i => ex_tq hint (.constant M.1 i (Int32.ofInt E.2.2.2))
  | .ldc_w i => ex_tq hint (.constant M.1 i (Int32.ofInt E.2.2.2))
  | .ldc2_w i => ex_tq hint (.constantLong M.1 i (Int64.ofInt E.2.2.2))
  | .getfield i => ex_fB M hint i E
  | .putfield i => ex_fB M hint i E && ex_oktB M.1 M.2.1.name E.2.1 E.2.2.1 E.2.2.2
  | .new i => decide (E.2.1 < 8) && ex_tq hint (.classLink M.1 i (ex_RC E.2.1))
  | .anewarray i => ex_tq hint (.classLink M.1 i RX5)
  | .invokestatic i => if E.2.2.1 = 3 then ex_tq hint (.methodLink M.1 i arraycopyName) else decide (E.2.1 ∈ xS) && ex_lB P nw M hint i E
  | .invokevirtual i => decide (E.2.1 ∈ xV) && decide (E.2.2.2 = (E.2.2.2.toNat : Int) ∧ E.2.2.2.toNat < 8) && decide (ex_RC E.2.2.2.toNat = (P E.2.1).2.1.cls) && ex_lB P nw M hint i E
  | .invokespecial i => if E.2.2.1 = 2 then ex_tq hint (.methodLink M.1 i objectInit) else decide (E.2.1 ∈ xI) && ex_lB P nw M hint i E
  | _ => true
def ex_okB (P : Nat → ex_M) (nw : List Cond) (xV xS xI : List Nat) (M : ex_M) (q : Nat × ex_I × Nat) : Bool := ex_okdB M.2.2.1 q.1 q.2.1.1 && ex_okgB q.1 q.2.1 && ex_wB P nw xV xS xI M q.2.2 q.2.1
/-- what the tables say of the methods that are called, and of the classes -/
def ex_okP (P : Nat → ex_M) (xV xS xI : List Nat) : Prop := (∀ a ∈ xV, ex_okM (P a) true ∧ Cond.selects (P a).2.1.cls (P a).2.1 (P a).2.1 ∈ ex_tbl) ∧ (∀ a ∈ xS, ex_okM (P a) false) ∧ (∀ a ∈ xI, ex_okM (P a) true ∧ ((P a).2.1.name = "<init>" ∧ (P a).2.2.2.2.1 = none)) ∧ (∀ ci, ci < 8 → Cond.instantiable (ex_RC ci) (ex_nF ci) ∈ ex_tbl ∧ Cond.initialized (ex_RC ci) ∈ ex_tbl)
theorem ex_okB_ok {P : Nat → ex_M} {nw : List Cond} {xV xS xI : List Nat} {M : ex_M} {q : Nat × ex_I × Nat} (hP : ex_okP P xV xS xI) (h : ex_okB P nw xV xS xI M q = true) : ex_okE P nw M q.1 q.2.1 := by
  obtain ⟨hV, hS, hI, hC⟩ := hP
  unfold ex_okB at h
  obtain ⟨h1, h3⟩ := Bool.and_eq_true_iff.mp h
  obtain ⟨h1, h2⟩ := Bool.and_eq_true_iff.mp h1
  obtain ⟨pc, ⟨I, a, b, v⟩, hint⟩ := q
  refine ⟨ex_okdB_ok h1, ex_okgB_ok h2, fun w hw => ?_, ?_⟩
  · unfold ex_wB at h3
    dsimp only at h3 hw
    unfold ex_kw at hw
    split at hw <;> first | (cases hw; done) | (cases hw; exact ex_tq_ok h3)
  · unfold ex_wB at h3
    cases I <;> dsimp only at h3 ⊢ <;> first | exact True.intro | skip
    · exact ex_tq_ok h3
    · exact ex_fB_ok h3
    · split at h3
      · rename_i h4
        rw [if_pos h4]
        exact ex_tq_ok h3
      · rename_i h4
        rw [if_neg h4]
        obtain ⟨h5, h6⟩ := Bool.and_eq_true_iff.mp h3
        exact ⟨(hI _ (of_decide_eq_true h5)).1, (hI _ (of_decide_eq_true h5)).2, (ex_lB_ok h6).2⟩
    · split at h3
      · rename_i h4
        rw [if_pos h4]
        exact ex_tq_ok h3
      · rename_i h4
        rw [if_neg h4]
        obtain ⟨h5, h6⟩ := Bool.and_eq_true_iff.mp h3
        exact ⟨hS _ (of_decide_eq_true h5), (ex_lB_ok h6).2⟩
    · obtain ⟨h4, h7⟩ := Bool.and_eq_true_iff.mp h3
      obtain ⟨h4, h6⟩ := Bool.and_eq_true_iff.mp h4
      obtain ⟨h4, h5⟩ := Bool.and_eq_true_iff.mp h4
      have h5 := of_decide_eq_true h5
      exact ⟨(hV _ (of_decide_eq_true h4)).1, (hV _ (of_decide_eq_true h4)).2, ⟨_, h5.1, h5.2, of_decide_eq_true h6⟩, (ex_lB_ok h7).2⟩
    · obtain ⟨h4, h5⟩ := Bool.and_eq_true_iff.mp h3
      exact ⟨ex_tq_ok h5, hC _ (of_decide_eq_true h4)⟩
    · obtain ⟨h4, h5⟩ := Bool.and_eq_true_iff.mp h3
      exact ⟨ex_fB_ok h4, ex_oktB_ok h5⟩
/-- a method's code: looked up by the place -/
def ex_cd (l : List (Nat × ex_I × Nat)) (pc : Nat) : Option ex_I := match l with
  | [] => none
  | q :: l => if q.1 = pc then some q.2.1 else ex_cd l pc
theorem ex_cd_ok {l : List (Nat × ex_I × Nat)} {f : Nat × ex_I × Nat → Bool} (h : l.all f = true) {pc : Nat} {E : ex_I} (hc : ex_cd l pc = some E) : ∃ q, f q = true ∧ q.1 = pc ∧ q.2.1 = E := by
  induction l with
  | nil => cases hc
  | cons q l ih =>
    rw [List.all_cons, Bool.and_eq_true] at h
    unfold ex_cd at hc
    split at hc
    · rename_i hq
      cases hc
      exact ⟨q, h.1, hq, rfl⟩
    · exact ih h.2 hc
