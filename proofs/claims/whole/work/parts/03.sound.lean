/-! THE PURE MACHINE IS THE MACHINE: what ex_run answers, the bytecode does. -/
def ex_g (b b0 : Nat) (k : Nat) : Nat := if k = 0 then b else b0 + k
def ex_v (g : Nat → Nat) (v : Value) : Value := match v with
  | .ref k => .ref (g k)
  | w => w
theorem ex_v_cat (g : Nat → Nat) (v : Value) : (ex_v g v).category = v.category := by cases v <;> rfl
theorem ex_v_sum (g : Nat → Nat) (st : List Value) : ((st.map (ex_v g)).map fun v => v.category).sum = (st.map fun v => v.category).sum := by
  rw [List.map_map]
  congr 1
  exact List.map_congr_left (fun v _ => ex_v_cat g v)
def ex_e (g : Nat → Nat) (ca : Nat → ClassId) (x : ex_E) : va_E := match x with
  | .inl q => .inl (ca q.1, q.2.1, .inl q.2.2)
  | .inr (.inl q) => .inl (ca 3, q.1, .inr (.inr (.inr (.inr (fun j => (q.2 j).map g)))))
  | .inr (.inr q) => .inr (q.1, q.2.map (ex_v g))
def ex_w (g : Nat → Nat) (ca : Nat → ClassId) (h : ex_H) : va_W := (h.drop 1).mapIdx (fun k x => (g (k + 1), ex_e g ca x))
theorem ex_w_get (g : Nat → Nat) (ca : Nat → ClassId) (h : ex_H) (k : Nat) : (ex_w g ca h)[k]? = (h[k + 1]?).map (fun x => (g (k + 1), ex_e g ca x)) := by
  unfold ex_w
  rw [List.getElem?_mapIdx, List.getElem?_drop, Nat.add_comm 1 k]
theorem ex_w_at {g : Nat → Nat} {ca : Nat → ClassId} {h : ex_H} {k : Nat} {x : ex_E} (hk : k ≠ 0) (hx : h[k]? = some x) : (ex_w g ca h)[k - 1]? = some (g k, ex_e g ca x) := by
  obtain ⟨j, rfl⟩ : ∃ j, k = j + 1 := ⟨k - 1, by omega⟩
  rw [ex_w_get, Nat.add_sub_cancel, hx]
  rfl
theorem ex_w_set {g : Nat → Nat} {ca : Nat → ClassId} {h : ex_H} {k : Nat} (x : ex_E) (hk : k ≠ 0) : (ex_w g ca h).set (k - 1) (g k, ex_e g ca x) = ex_w g ca (h.set k x) := by
  obtain ⟨j, rfl⟩ : ∃ j, k = j + 1 := ⟨k - 1, by omega⟩
  rw [Nat.add_sub_cancel]
  refine List.ext_getElem? fun i => ?_
  rw [ex_w_get, List.getElem?_set, ex_w_get, List.getElem?_set]
  by_cases hij : j = i
  · subst hij
    have hl : (ex_w g ca h).length = h.length - 1 := by unfold ex_w; simp
    by_cases hlt : j < h.length - 1
    · rw [if_pos rfl, if_pos (by omega), if_pos rfl, if_pos (by omega)]; rfl
    · rw [if_pos rfl, if_neg (by omega), if_pos rfl, if_neg (by omega)]; rfl
  · rw [if_neg hij, if_neg (by omega)]
theorem ex_w_push {g : Nat → Nat} {ca : Nat → ClassId} {h : ex_H} (x : ex_E) (hl : 1 ≤ h.length) : ex_w g ca (h ++ [x]) = ex_w g ca h ++ [(g h.length, ex_e g ca x)] := by
  refine List.ext_getElem? fun i => ?_
  have hw : (ex_w g ca h).length = h.length - 1 := by unfold ex_w; simp
  rw [ex_w_get, List.getElem?_append, List.getElem?_append, hw]
  by_cases h1 : i + 1 < h.length
  · rw [if_pos h1, if_pos (by omega), ex_w_get]
  · rw [if_neg h1, if_neg (by omega)]
    by_cases h2 : i + 1 = h.length
    · rw [h2, Nat.sub_self, show i - (h.length - 1) = 0 by omega]; rfl
    · rw [List.getElem?_eq_none (by simp; omega), List.getElem?_eq_none (by simp; omega)]; rfl
theorem ex_w_D (b b0 : Nat) (ca : Nat → ClassId) (h : ex_H) : va_D (fun q => b0 < q) (ex_w (ex_g b b0) ca h) := by
  refine ⟨fun i j x y hi hj e => ?_, fun k q hk => ?_⟩
  · rw [ex_w_get, Option.map_eq_some_iff] at hi hj
    obtain ⟨u, -, rfl⟩ := hi
    obtain ⟨w, -, rfl⟩ := hj
    have e' : ex_g b b0 (i + 1) = ex_g b b0 (j + 1) := e
    unfold ex_g at e'
    rw [if_neg (by omega), if_neg (by omega)] at e'
    omega
  · rw [ex_w_get, Option.map_eq_some_iff] at hk
    obtain ⟨u, -, rfl⟩ := hk
    show b0 < ex_g b b0 (k + 1)
    unfold ex_g
    rw [if_neg (by omega)]
    omega
/-- locals -/
def ex_Ls (g : Nat → Nat) (nL : Nat) (lg : List Nat) (ls : Array Slot) (L : ex_L) : Prop := ls.size = nL ∧ L.length = nL ∧ lv_wf ls ∧ (∀ (i : Nat) (v : Value), L[i]? = some (some v) → ls[i]? = some (.val (ex_v g v))) ∧ ∀ (i : Nat) (v : Value), L[i]? = some (some v) → v.category = 2 → i ∈ lg
def ex_ps (g : Nat → Nat) (L : ex_L) : List (Nat × Value) := (List.range L.length).filterMap (fun i => match L[i]? with
  | some (some v) => some (i, ex_v g v)
  | _ => none)
theorem ex_ps_mem {g : Nat → Nat} {L : ex_L} {i : Nat} {v : Value} (h : L[i]? = some (some v)) : (i, ex_v g v) ∈ ex_ps g L := by
  unfold ex_ps
  refine List.mem_filterMap.mpr ⟨i, List.mem_range.mpr ?_, ?_⟩
  · exact (List.getElem?_eq_some_iff.mp h).1
  · rw [h]
theorem ex_ps_of {g : Nat → Nat} {L : ex_L} {q : Nat × Value} (h : q ∈ ex_ps g L) : ∃ v, L[q.1]? = some (some v) ∧ q.2 = ex_v g v := by
  unfold ex_ps at h
  obtain ⟨i, -, hi⟩ := List.mem_filterMap.mp h
  split at hi
  · rename_i v hv
    cases hi
    exact ⟨v, hv, rfl⟩
  · cases hi
theorem ex_Ls.has {g : Nat → Nat} {nL : Nat} {lg : List Nat} {ls : Array Slot} {L : ex_L} (h : ex_Ls g nL lg ls L) : lv_has ls nL (ex_ps g L) := by
  refine ⟨h.1, h.2.2.1, fun q hq => ?_⟩
  obtain ⟨v, h1, h2⟩ := ex_ps_of hq
  rw [h2]
  exact h.2.2.2.1 _ _ h1
theorem ex_Ls.put {g : Nat → Nat} {nL : Nat} {lg : List Nat} {ls ls' : Array Slot} {L : ex_L} {i : Nat} {v : Value} (h : ex_Ls g nL lg ls L) (hi : i ∉ lg) (hp : i - 1 ∉ lg) (hc : v.category = 1)
    (h' : lv_has ls' nL ((i, ex_v g v) :: (ex_ps g L).filter (fun q => !(q.1 == i) && !(q.1 + 1 == i && q.2.category == 2)))) : ex_Ls g nL lg ls' (L.set i (some v)) := by
  refine ⟨h'.1, by rw [List.length_set]; exact h.2.1, h'.2.1, fun j w hj => ?_, fun j w hj hw => ?_⟩
  · rw [List.getElem?_set] at hj
    by_cases hij : i = j
    · subst hij
      rw [if_pos rfl] at hj
      split at hj
      · cases hj
        exact h'.2.2 _ List.mem_cons_self
      · cases hj
    · rw [if_neg hij] at hj
      refine h'.2.2 (j, ex_v g w) (List.mem_cons_of_mem _ (List.mem_filter.mpr ⟨ex_ps_mem hj, ?_⟩))
      have h1 : ¬ j = i := fun q => hij q.symm
      have h2 : ¬ (j + 1 = i ∧ (ex_v g w).category = 2) := by
        rintro ⟨q1, q2⟩
        rw [ex_v_cat] at q2
        have := h.2.2.2.2 j w hj q2
        rw [show j = i - 1 by omega] at this
        exact hp this
      simp only [Bool.and_eq_true, Bool.not_eq_true', beq_eq_false_iff_ne, ne_eq, Bool.and_eq_false_iff]
      refine ⟨h1, ?_⟩
      by_cases q1 : j + 1 = i
      · exact Or.inr (fun q2 => h2 ⟨q1, q2⟩)
      · exact Or.inl q1
  · rw [List.getElem?_set] at hj
    by_cases hij : i = j
    · subst hij
      rw [if_pos rfl] at hj
      split at hj
      · cases hj
        omega
      · cases hj
    · rw [if_neg hij] at hj
      exact h.2.2.2.2 j w hj hw
theorem ex_ld_some {L : ex_L} {i : Nat} {v : Value} (h : ex_ld L i = some v) : L[i]? = some (some v) := by
  unfold ex_ld at h
  split at h
  · rename_i w hw
    cases h
    exact hw
  · cases h
theorem ex_st_some {lg : List Nat} {L L' : ex_L} {i : Nat} {v : Value} (h : ex_st lg L i v = some L') : i < L.length ∧ i ∉ lg ∧ i - 1 ∉ lg ∧ v.category = 1 ∧ L' = L.set i (some v) := by
  unfold ex_st at h
  split at h
  · rename_i hc
    cases h
    exact ⟨hc.1, hc.2.1, hc.2.2.1, hc.2.2.2, rfl⟩
  · cases h
