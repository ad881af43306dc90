/-! all rows: what is found -/
section FO
variable {src : Nat → Nat} {wl : List Nat}
theorem sta_1 (a : acT) (g : Nat → Nat) : (sta src wl a g).1 = a.1 + (if vld src wl g = true then 1 else 0) := by
  unfold sta
  split <;> rfl
theorem fold_w : ∀ (L : List (Nat → Nat)) (a : acT), (L.foldl (sta src wl) a).1 = a.1 + L.countP (vld src wl) := by
  intro L
  induction L with
  | nil => intro a; rfl
  | cons g L ih =>
    intro a
    rw [List.foldl_cons, ih, sta_1, List.countP_cons, Nat.add_assoc]
    congr 1
    exact Nat.add_comm _ _
theorem fold_f {i : Nat} : ∀ (L : List (Nat → Nat)) (a : acT), (L.foldl (sta src wl) a).2.1.testBit i = true ↔ a.2.1.testBit i = true ∨ ∃ g, g ∈ L ∧ vld src wl g = true ∧ i ∈ wl ∧ g i = 9 := by
  intro L
  induction L with
  | nil => intro a; simp
  | cons g L ih =>
    intro a
    rw [List.foldl_cons, ih]
    unfold sta
    by_cases h : vld src wl g = true
    · rw [if_pos h]
      dsimp only
      rw [Nat.testBit_or, Bool.or_eq_true, rml_bit]
      constructor
      · rintro ((q | q) | ⟨g2, q1, q2⟩)
        · exact Or.inl q
        · exact Or.inr ⟨g, List.mem_cons_self, h, q⟩
        · exact Or.inr ⟨g2, List.mem_cons_of_mem _ q1, q2⟩
      · rintro (q | ⟨g2, q1, q2, q3⟩)
        · exact Or.inl (Or.inl q)
        · rcases List.mem_cons.mp q1 with e | e
          · rw [e] at q3; exact Or.inl (Or.inr q3)
          · exact Or.inr ⟨g2, e, q2, q3⟩
    · rw [if_neg h]
      constructor
      · rintro (q | ⟨g2, q1, q2⟩)
        · exact Or.inl q
        · exact Or.inr ⟨g2, List.mem_cons_of_mem _ q1, q2⟩
      · rintro (q | ⟨g2, q1, q2, q3⟩)
        · exact Or.inl q
        · rcases List.mem_cons.mp q1 with e | e
          · rw [e] at q2; exact absurd q2 h
          · exact Or.inr ⟨g2, e, q2, q3⟩
theorem fold_F1 : ∀ (L : List (Nat → Nat)) (a : acT), a.1 ≠ 0 → (L.foldl (sta src wl) a).2.2 = a.2.2 := by
  intro L
  induction L with
  | nil => intro a _; rfl
  | cons g L ih =>
    intro a ha
    rw [List.foldl_cons]
    have e : (sta src wl a g).2.2 = a.2.2 := by
      unfold sta
      split
      · first | rfl | exact if_neg ha
      · rfl
    rw [ih _ (by rw [sta_1]; omega), e]
theorem fold_F0 : ∀ (L : List (Nat → Nat)) (a : acT), a.1 = 0 → ∀ g0 r, L.filter (vld src wl) = g0 :: r → (L.foldl (sta src wl) a).2.2 = g0 := by
  intro L
  induction L with
  | nil => intro a _ g0 r h; cases h
  | cons g L ih =>
    intro a ha g0 r h
    rw [List.foldl_cons]
    rw [List.filter_cons] at h
    by_cases hv : vld src wl g = true
    · rw [if_pos hv] at h
      cases h
      have e : (sta src wl a g).2.2 = g := by
        unfold sta
        rw [if_pos hv]
        dsimp only
        rw [if_pos ha]
      rw [fold_F1 _ _ (by rw [sta_1, if_pos hv]; omega), e]
    · rw [if_neg hv] at h
      exact ih _ (by rw [sta_1, if_neg hv]; omega) g0 r h
theorem fold_64 (hwl : ∀ c, c ∈ wl → c < 6) : ∀ (L : List (Nat → Nat)) (a : acT), a.2.1 < 64 → (L.foldl (sta src wl) a).2.1 < 64 := by
  intro L a ha
  apply Nat.lt_pow_two_of_testBit (n := 6)
  intro i hi
  rw [← Bool.not_eq_true, fold_f]
  rintro (q | ⟨g, q1, q2, q3, q4⟩)
  · have := tb_lt (n := 6) ha q; omega
  · have := hwl i q3; omega
theorem en_len {V : List Nat} : ∀ l g, (en V l g).length = V.length ^ l.length := by
  intro l
  induction l with
  | nil => intro g; rfl
  | cons c l ih =>
    intro g
    rw [en, List.length_flatMap, List.map_congr_left (g := fun _ => V.length ^ l.length) (fun v _ => ih _), List.map_const', List.sum_replicate_nat, List.length_cons, Nat.pow_succ, Nat.mul_comm]
end FO
section RUN
variable {lx : Nat} {xs : Nat → Int32} {S : Nat → Nat → Nat} {t : Nat}
theorem en_run (hW : WF S) (ht : t < 4) {w0 : Nat} (h0 : (wlS S t)[0]? = some w0) : ∀ l pre, wlS S t = pre ++ l → ∀ (g h : Nat → Nat) (a : acT) M o3, RepM M S → WHO M S t → ROW M S t h → (∀ c, c ∈ pre → h c = g c ∧ g c ∈ wlS S t ++ [9]) → (∀ c, c ∈ l → h c = w0) → ACC M S t a → a.1 + ((wlS S t).length + 1) ^ l.length ≤ 200000 → a.2.1 < 64 → ∃ M1 h1 o3', frE M M1 ∧ ROW M1 S t h1 ∧ (∀ c, c ∈ pre → h1 c = g c) ∧ (∀ c, c ∈ l → h1 c = 9) ∧ ACC M1 S t ((en (wlS S t ++ [9]) l g).foldl (sta (sr S t) (wlS S t)) a) ∧ ∀ d Q, Go (d + 3) 154 93 [some (.ref 53), some (.int (nI t)), some (.int (nI 1)), o3] [] (HP lx xs M) Q = Go (d + 3) 154 189 [some (.ref 53), some (.int (nI t)), some (.int (nI 1)), o3'] [] (HP lx xs M1) Q := by
  have hl := wlS_len S t
  have nd : (wlS S t).Nodup := wlK_nd (KK S t)
  have wl6 : ∀ c, c ∈ wlS S t → c < 6 := fun c hc => (wlK_mem.mp hc).1
  have vm : ∀ v, v ∈ wlS S t ++ [9] → v ∈ wlS S t ∨ v = 9 := fun v hv => by
    rcases List.mem_append.mp hv with q | q
    · exact Or.inl q
    · exact Or.inr (List.mem_singleton.mp q)
  intro l
  induction l with
  | nil =>
    intro pre hp g h a M o3 hC hw hr hpre _ ha hb hf
    rw [List.append_nil] at hp
    have hb2 : a.1 < 1000000 := by
      have : ((wlS S t).length + 1) ^ ([] : List Nat).length = 1 := rfl
      omega
    have hrg : ROW M S t g := ROW_congr hr (fun c hc => (hpre c (by rw [← hp]; exact hc)).1)
    have hg : cls S t g := fun c hc => vm _ (hpre c (by rw [← hp]; exact hc)).2
    obtain ⟨M1, o3', r1, r2, r3, r4⟩ := en_one (lx := lx) (xs := xs) (o3 := o3) hW ht hC hw hrg hg ha hb2 hf
    exact ⟨M1, g, o3', r1, r2, fun _ _ => rfl, fun c hc => (by cases hc), r3, r4⟩
  | cons c l ih =>
    intro pre hp g h a M o3 hC hw hr hpre hl0 ha hb hf
    have hp2 : wlS S t = (pre ++ [c]) ++ l := by rw [hp, List.append_assoc]; rfl
    have hcp : c ∉ pre := by
      have n1 := nd
      rw [hp, List.nodup_append] at n1
      exact fun q => (n1.2.2 c q c List.mem_cons_self) rfl
    have hcl : c ∉ l := by
      have n1 := nd
      rw [hp, List.nodup_append] at n1
      exact (List.nodup_cons.mp n1.2.1).1
    have hpl : ∀ x, x ∈ pre → x ∉ l := fun x hx hx2 => by
      have n1 := nd
      rw [hp, List.nodup_append] at n1
      exact (n1.2.2 x hx x (List.mem_cons_of_mem _ hx2)) rfl
    have hlen : (wlS S t).length = pre.length + (l.length + 1) := by rw [hp, List.length_append, List.length_cons]
    -- places
    have hck : (wlS S t)[pre.length]? = some c := by rw [hp, List.getElem?_append_right (Nat.le_refl _), Nat.sub_self]; rfl
    have plt : ∀ k x, (wlS S t)[k]? = some x → k < pre.length → x ∈ pre := fun k x hk hlt => by
      rw [hp, List.getElem?_append_left hlt] at hk
      exact List.mem_of_getElem? hk
    have pgt : ∀ k x, (wlS S t)[k]? = some x → pre.length < k → x ∈ l := fun k x hk hlt => by
      rw [hp, List.getElem?_append_right (by omega)] at hk
      obtain ⟨j, hj⟩ : ∃ j, k - pre.length = j + 1 := ⟨k - pre.length - 1, by omega⟩
      rw [hj, List.getElem?_cons_succ] at hk
      exact List.mem_of_getElem? hk
    have inner : ∀ W Vp, wlS S t ++ [9] = Vp ++ W → ∀ v W2, W = v :: W2 → ∀ (h : Nat → Nat) (a : acT) M o3, RepM M S → WHO M S t → ROW M S t h → (∀ x, x ∈ pre → h x = g x) → h c = v → (∀ x, x ∈ l → h x = w0) → ACC M S t a → a.1 + W.length * ((wlS S t).length + 1) ^ l.length ≤ 200000 → a.2.1 < 64 → ∃ M1 h1 o3', frE M M1 ∧ ROW M1 S t h1 ∧ (∀ x, x ∈ pre → h1 x = g x) ∧ (∀ x, x ∈ c :: l → h1 x = 9) ∧ ACC M1 S t ((W.flatMap (fun v => en (wlS S t ++ [9]) l (fu g c v))).foldl (sta (sr S t) (wlS S t)) a) ∧ ∀ d Q, Go (d + 3) 154 93 [some (.ref 53), some (.int (nI t)), some (.int (nI 1)), o3] [] (HP lx xs M) Q = Go (d + 3) 154 189 [some (.ref 53), some (.int (nI t)), some (.int (nI 1)), o3'] [] (HP lx xs M1) Q := by
      intro W
      induction W with
      | nil => intro Vp _ v W2 e; cases e
      | cons v0 W ihW =>
        intro Vp hV v W2 e h a M o3 hC hw hr hpre2 hcv hl0 ha hb hf
        have ev : v = v0 := (List.cons.inj e).1.symm
        have eW : W = W2 := (List.cons.inj e).2
        subst ev
        subst eW
        have hvV : v ∈ wlS S t ++ [9] := by rw [hV]; exact List.mem_append_right _ List.mem_cons_self
        rw [List.length_cons, Nat.succ_mul] at hb
        obtain ⟨M1, h1, o1, r1, r2, r3, r4, r5, r6⟩ := ih (pre ++ [c]) hp2 (fu g c v) h a M o3 hC hw hr (fun x hx => by
          rcases List.mem_append.mp hx with q | q
          · have e : x ≠ c := fun z => hcp (by rw [← z]; exact q)
            rw [fu_off e]
            exact ⟨hpre2 x q, (hpre x q).2⟩
          · rw [List.mem_singleton.mp q, fu_at]
            exact ⟨hcv, hvV⟩) hl0 ha (by omega) hf
        have r3p : ∀ x, x ∈ pre → h1 x = g x := fun x hx => by
          rw [r3 x (List.mem_append_left _ hx), fu_off (fun z => hcp (by rw [← z]; exact hx))]
        have r3c : h1 c = v := by rw [r3 c (List.mem_append_right _ (List.mem_singleton.mpr rfl)), fu_at]
        have hvi : (wlS S t ++ [9])[Vp.length]? = some v := by rw [hV, List.getElem?_append_right (Nat.le_refl _), Nat.sub_self]; rfl
        obtain ⟨v1, v2, v3⟩ := V_ix hvi
        have hVl : (wlS S t).length + 1 = Vp.length + (W.length + 1) := by
          have := congrArg List.length hV
          rw [List.length_append, List.length_append, List.length_cons] at this
          exact this
        cases W with
        | nil =>
          have h9 : v = 9 := v3 (by have : ([] : List Nat).length = 0 := rfl; omega)
          refine ⟨M1, h1, o1, r1, r2, r3p, fun x hx => ?_, ?_, r6⟩
          · rcases List.mem_cons.mp hx with q | q
            · rw [q, r3c, h9]
            · exact r4 x q
          · rw [List.flatMap_cons, List.flatMap_nil, List.append_nil]
            exact r5
        | cons v' W' =>
          rw [List.length_cons] at hVl
          have hvlt : Vp.length < (wlS S t).length := by omega
          have hvi' : (wlS S t ++ [9])[Vp.length + 1]? = some v' := by
            rw [hV, List.getElem?_append_right (by omega), show Vp.length + 1 - Vp.length = 1 by omega]; rfl
          obtain ⟨v1', -, -⟩ := V_ix hvi'
          have hC1 := frE_RepM hC r1
          have hw1 := frE_WHO hw r1
          obtain ⟨M2, n1, n2, n3, n4, n5⟩ := c_nextRow_go (lx := lx) (xs := xs) (j := pre.length) (v := Vp.length) hw1.1 (by omega) hvlt (by rw [r2 _ _ hck, r3c, v1]) (fun k k1 k2 => by
            obtain ⟨x, hx⟩ : ∃ x, (wlS S t)[k]? = some x := ⟨_, List.getElem?_eq_getElem k2⟩
            rw [r2 k x hx, r4 x (pgt k x hx k1), ix_9])
          have fr2 : frE M1 M2 := ⟨fun x q1 q2 q3 => n1 x q2, fun j q1 q2 => by rw [n1 53 (by decide)]⟩
          have hr2 : ROW M2 S t (fun x => if x ∈ l then w0 else if x = c then v' else h1 x) := by
            intro k x hk
            have hk2 := (List.getElem?_eq_some_iff.mp hk).1
            dsimp only
            by_cases k1 : k < pre.length
            · have hx := plt k x hk k1
              rw [n2 k k1, if_neg (hpl x hx), if_neg (fun z => hcp (by rw [← z]; exact hx))]
              exact r2 k x hk
            · by_cases k3 : k = pre.length
              · subst k3
                rw [hck] at hk
                cases hk
                rw [n3, if_neg hcl, if_pos rfl, v1']
              · rw [n4 k (by omega) hk2, if_pos (pgt k x hk (by omega)), (ix_who h0).2]
          have ha2 : ACC M2 S t ((en (wlS S t ++ [9]) l (fu g c v)).foldl (sta (sr S t) (wlS S t)) a) := by
            obtain ⟨q1, q2, q3⟩ := r5
            exact ⟨by rw [n1 53 (by decide)]; exact q1, by rw [n1 53 (by decide)]; exact q2, fun q k x hk => by rw [n1 70 (by decide)]; exact q3 q k x hk⟩
          have hcnt : (en (wlS S t ++ [9]) l (fu g c v)).countP (vld (sr S t) (wlS S t)) ≤ ((wlS S t).length + 1) ^ l.length := by
            refine Nat.le_trans List.countP_le_length ?_
            rw [en_len, List.length_append]
            exact Nat.le_refl _
          obtain ⟨M3, h3, o3', s1, s2, s3, s4, s5, s6⟩ := ihW (Vp ++ [v]) (by rw [hV, List.append_assoc]; rfl) v' W' rfl (fun x => if x ∈ l then w0 else if x = c then v' else h1 x) ((en (wlS S t ++ [9]) l (fu g c v)).foldl (sta (sr S t) (wlS S t)) a) M2 o1 (frE_RepM hC1 fr2) (frE_WHO hw1 fr2) hr2 (fun x hx => by
            rw [if_neg (hpl x hx), if_neg (fun z => hcp (by rw [← z]; exact hx))]
            exact r3p x hx) (by rw [if_neg hcl, if_pos rfl]) (fun x hx => by rw [if_pos hx]) ha2 (by rw [fold_w]; omega) (fold_64 wl6 _ _ hf)
          refine ⟨M3, h3, o3', frE_tr r1 (frE_tr fr2 s1), s2, s3, s4, ?_, fun d Q => ?_⟩
          · rw [List.flatMap_cons, List.foldl_append]
            exact s5
          · have st2 : Go (d + 3) 154 189 [some (.ref 53), some (.int (nI t)), some (.int (nI 1)), o1] [] (HP lx xs M1) Q = Go (d + 2 + 1) 154 93 [some (.ref 53), some (.int (nI t)), some (.int (nI 1)), o1] [] (HP lx xs M2) Q := by
              rw [show d + 3 = d + 2 + 1 from rfl]
              simp (disch := omega) only [s_154_189, s_154_190, s_154_193, s_154_194, s_154_89, s_154_90, ↓reduceIte, n5, ap_some, n1_0]
            exact (r6 d Q).trans (st2.trans (s6 d Q))
    -- from the first value on
    obtain ⟨W2, hV0⟩ : ∃ W2, wlS S t ++ [9] = w0 :: W2 := by
      cases hq : wlS S t with
      | nil => rw [hq] at h0; cases h0
      | cons x xs2 => rw [hq] at h0; cases h0; exact ⟨xs2 ++ [9], rfl⟩
    have hVlen : (wlS S t ++ [9]).length = (wlS S t).length + 1 := by rw [List.length_append]; rfl
    obtain ⟨M1, h1, o3', r1, r2, r3, r4, r5, r6⟩ := inner (wlS S t ++ [9]) [] rfl w0 W2 hV0 h a M o3 hC hw hr (fun x hx => (hpre x hx).1) (hl0 c List.mem_cons_self) (fun x hx => hl0 x (List.mem_cons_of_mem _ hx)) ha (by rw [hVlen]; rw [List.length_cons, Nat.pow_succ, Nat.mul_comm] at hb; exact hb) hf
    exact ⟨M1, h1, o3', r1, r2, r3, r4, r5, r6⟩
/-- what findWays finds -/
def FW (S : Nat → Nat → Nat) (t : Nat) : acT := (en (wlS S t ++ [9]) (wlS S t) (fun _ => 9)).foldl (sta (sr S t) (wlS S t)) (0, 0, fun _ => 9)
theorem ll_who (hW : WF S) (ht : t < 4) : ∀ m c M, c + m = S 0 0 → RepM M S → M 53 24 = nI (ls (pk S t) c).length → (∀ k x, (ls (pk S t) c)[k]? = some x → M 69 k = nI x ∧ M 68 k = nI 0) → ∃ M1, (∀ c, c ≠ 53 → c ≠ 68 → c ≠ 69 → M1 c = M c) ∧ (∀ j, j ≠ 24 → M1 53 j = M 53 j) ∧ WHO M1 S t ∧ (∀ k, k < (wlS S t).length → M1 68 k = nI 0) ∧ ∀ d Q o3, Go d 154 17 [some (.ref 53), some (.int (nI t)), some (.int (nI c)), o3] [] (HP lx xs M) Q = Go d 154 76 [some (.ref 53), some (.int (nI t)), some (.int (nI (S 0 0))), o3] [] (HP lx xs M1) Q := by
  have w1 := hW.1
  intro m
  induction m with
  | zero =>
    intro c M hc hC h24 h
    have e : c = S 0 0 := by omega
    subst e
    rw [wlS_ls w1] at h24 h
    have c1 := hC.1
    refine ⟨M, fun _ _ _ _ => rfl, fun _ _ => rfl, ⟨h24, fun k x hk => (h k x hk).1⟩, fun k hk => (h k _ (List.getElem?_eq_getElem hk)).2, fun d Q o3 => ?_⟩
    rw [s_154_17]
    simp (disch := omega) only [s_154_18, s_154_19, s_154_22, ↓reduceIte, c1, i_lt, Nat.lt_irrefl]
  | succ m ih =>
    intro c M hc hC h24 h
    have hc2 : c < S 0 0 := by omega
    have c1 := hC.1
    have e5 := hC.2.2.2.2.1 (4 * c + t) (by omega)
    have w5 := hW.2.2.2.2.1 (4 * c + t) (by omega)
    have pc : pk S t c = decide (S 2 (4 * c + t) < 97) := by unfold pk; rw [decide_eq_true hc2, Bool.true_and, Nat.mul_comm 4 c]
    have hle := ls_le (pk S t) c
    by_cases hb : S 2 (4 * c + t) < 97
    · rw [decide_eq_true hb] at pc
      have e1 : [c].length = 1 := rfl
      obtain ⟨M1, r1, r2, r3, r4, r5⟩ := ih (c + 1) (up (up (up M 69 (ls (pk S t) c).length (nI c)) 68 (ls (pk S t) c).length (nI 0)) 53 24 (nI ((ls (pk S t) c).length + 1))) (by omega) (RepM_eq hC (fun j h1 h2 => by rw [up_off (by omega), up_ne _ _ _ (by decide), up_ne _ _ _ (by decide)]) (fun c h1 h2 => by rw [up_ne _ _ _ (by omega), up_ne _ _ _ (by omega), up_ne _ _ _ (by omega)])) (by rw [up_at, ls_s, if_pos pc, List.length_append, e1]) (fun k x hk => by
        rw [ls_s, if_pos pc] at hk
        by_cases e : k < (ls (pk S t) c).length
        · rw [List.getElem?_append_left e] at hk
          exact ⟨by rw [up_ne _ _ _ (by decide), up_ne _ _ _ (by decide), up_off (by omega)]; exact (h k x hk).1, by rw [up_ne _ _ _ (by decide), up_off (by omega), up_ne _ _ _ (by decide)]; exact (h k x hk).2⟩
        · rw [List.getElem?_append_right (by omega)] at hk
          have := (List.getElem?_eq_some_iff.mp hk).1
          have e2 : k = (ls (pk S t) c).length := by omega
          rw [e2, Nat.sub_self] at hk
          cases hk
          rw [e2]
          exact ⟨by rw [up_ne _ _ _ (by decide), up_ne _ _ _ (by decide), up_at], by rw [up_ne _ _ _ (by decide), up_at]⟩)
      refine ⟨M1, fun c h1 h2 h3 => by rw [r1 c h1 h2 h3, up_ne _ _ _ h1, up_ne _ _ _ h2, up_ne _ _ _ h3], fun j hj => by rw [r2 j hj, up_off hj, up_ne _ _ _ (by decide), up_ne _ _ _ (by decide)], r3, r4, fun d Q o3 => ?_⟩
      rw [s_154_17]
      simp (disch := omega) only [s_154_18, s_154_19, s_154_22, s_154_25, s_154_26, s_154_29, s_154_30, s_154_31, s_154_32, s_154_33, s_154_34, s_154_35, s_154_37, s_154_40, s_154_41, s_154_44, s_154_45, s_154_48, s_154_49, s_154_50, s_154_51, s_154_54, s_154_55, s_154_58, s_154_59, s_154_60, s_154_61, s_154_62, s_154_65, s_154_66, s_154_67, s_154_70, s_154_73, ↓reduceIte, c1, i_lt, hc2, i_mul, i_add, i_in, i_cl, true_and, e5, hb, h24, up_ne]
      exact r5 d Q o3
    · rw [decide_eq_false hb] at pc
      obtain ⟨M1, r1, r2, r3, r4, r5⟩ := ih (c + 1) M (by omega) hC (by rw [ls_s, if_neg (by rw [pc]; simp)]; exact h24) (fun k x hk => by
        rw [ls_s, if_neg (by rw [pc]; simp)] at hk
        exact h k x hk)
      refine ⟨M1, r1, r2, r3, r4, fun d Q o3 => ?_⟩
      rw [s_154_17]
      simp (disch := omega) only [s_154_18, s_154_19, s_154_22, s_154_25, s_154_26, s_154_29, s_154_30, s_154_31, s_154_32, s_154_33, s_154_34, s_154_35, s_154_37, s_154_40, s_154_41, s_154_44, s_154_45, s_154_48, s_154_49, s_154_50, s_154_51, s_154_54, s_154_55, s_154_58, s_154_59, s_154_60, s_154_61, s_154_62, s_154_65, s_154_66, s_154_67, s_154_70, s_154_73, ↓reduceIte, c1, i_lt, hc2, i_mul, i_add, i_in, i_cl, true_and, e5, hb]
      exact r5 d Q o3
theorem c_X7_findWays (hW : WF S) (ht : t < 4) {M : Nat → Nat → Int32} (hC : RepM M S) : ∃ M1, RepM M1 S ∧ frM M M1 ∧ WHO M1 S t ∧ ACC M1 S t (FW S t) ∧ ∀ d Q, Go (d + 3) 154 0 [some (.ref 53), some (.int (nI t)), none, none] [] (HP lx xs M) Q = Q none (HP lx xs M1) := by
  have hl := wlS_len S t
  obtain ⟨N, hN⟩ : ∃ N, N = up (up (up M 53 24 (nI 0)) 53 26 (nI 0)) 53 27 (nI 0) := ⟨_, rfl⟩
  have nf : ∀ c, c ≠ 53 → N c = M c := fun c hc => by rw [hN, up_ne _ _ _ hc, up_ne _ _ _ hc, up_ne _ _ _ hc]
  have nj : ∀ j, j ≠ 24 → j ≠ 26 → j ≠ 27 → N 53 j = M 53 j := fun j h1 h2 h3 => by rw [hN, up_off h3, up_off h2, up_off h1]
  have hCN : RepM N S := RepM_eq hC (fun j h1 h2 => nj j (by omega) (by omega) (by omega)) (fun c h1 h2 => nf c (by omega))
  obtain ⟨M1, r1, r2, r3, r4, r5⟩ := ll_who (lx := lx) (xs := xs) hW ht (S 0 0) 0 N (by omega) hCN (by rw [hN, up_off (by decide), up_off (by decide), up_at]; rfl) (fun k x hk => by cases hk)
  have hC1 : RepM M1 S := RepM_eq hCN (fun j h1 h2 => r2 j (by omega)) (fun c h1 h2 => r1 c (by omega) (by omega) (by omega))
  have ha : ACC M1 S t (0, 0, fun _ => 9) := ⟨by rw [r2 26 (by decide), hN, up_off (by decide), up_at], by rw [r2 27 (by decide), hN, up_at], fun q => by have q : 0 < 0 := q; omega⟩
  have f1 : frM M M1 := ⟨fun c h => (r1 c (by omega) (by omega) (by omega)).trans (nf c (by omega)), (r1 59 (by decide) (by decide) (by decide)).trans (nf 59 (by decide)), (r1 71 (by decide) (by decide) (by decide)).trans (nf 71 (by decide)), (r1 72 (by decide) (by decide) (by decide)).trans (nf 72 (by decide)), (r1 73 (by decide) (by decide) (by decide)).trans (nf 73 (by decide)), (r1 74 (by decide) (by decide) (by decide)).trans (nf 74 (by decide)), by rw [r2 10 (by decide), nj 10 (by decide) (by decide) (by decide)], by rw [r2 28 (by decide), nj 28 (by decide) (by decide) (by decide)]⟩
  have st : ∀ d Q, Go (d + 3) 154 0 [some (.ref 53), some (.int (nI t)), none, none] [] (HP lx xs M) Q = Go (d + 3) 154 76 [some (.ref 53), some (.int (nI t)), some (.int (nI (S 0 0))), none] [] (HP lx xs M1) Q := fun d Q => by
    simp only [s_154_0, s_154_1, s_154_2, s_154_5, s_154_6, s_154_7, s_154_10, s_154_11, s_154_12, s_154_15, s_154_16]
    rw [← hN, r5]
  by_cases hm : (wlS S t).length = 0
  · have hnil : wlS S t = [] := List.length_eq_zero_iff.mp hm
    have hFW : FW S t = (0, 0, fun _ => 9) := by
      unfold FW
      rw [hnil]
      rfl
    refine ⟨M1, hC1, f1, r3, by rw [hFW]; exact ha, fun d Q => ?_⟩
    have e24 := r3.1
    rw [hm] at e24
    rw [st]
    simp (disch := omega) only [s_154_76, s_154_77, s_154_80, s_154_83, s_154_84, s_154_87, s_154_88, s_154_89, s_154_90, s_154_197, ↓reduceIte, e24, show (0 < nI 0) = False by decide, n0_0]
  · obtain ⟨w0, h0⟩ : ∃ w0, (wlS S t)[0]? = some w0 := ⟨_, List.getElem?_eq_getElem (by omega)⟩
    have hpow : ((wlS S t).length + 1) ^ (wlS S t).length ≤ 7 ^ 6 := Nat.le_trans (Nat.pow_le_pow_left (by omega : (wlS S t).length + 1 ≤ 7) _) (Nat.pow_le_pow_right (by decide) hl)
    obtain ⟨M2, h2, o3, s1, s2, s3, s4, s5, s6⟩ := en_run (lx := lx) (xs := xs) hW ht h0 (wlS S t) [] rfl (fun _ => 9) (fun _ => w0) (0, 0, fun _ => 9) M1 none hC1 r3 (fun k c hk => by rw [r4 k (List.getElem?_eq_some_iff.mp hk).1, (ix_who h0).2]) (fun c hc => by cases hc) (fun _ _ => rfl) ha (by dsimp only; omega) (by decide)
    have hw2 := frE_WHO r3 s1
    obtain ⟨M3, n1, n2⟩ := c_nextRow_end (lx := lx) (xs := xs) hw2.1 (fun k hk => by
      obtain ⟨x, hx⟩ : ∃ x, (wlS S t)[k]? = some x := ⟨_, List.getElem?_eq_getElem hk⟩
      rw [s2 k x hx, s4 x (ix_who hx).1, ix_9])
    have f3 : frE M1 M3 := frE_tr s1 ⟨fun x q1 q2 q3 => n1 x q2, fun j q1 q2 => by rw [n1 53 (by decide)]⟩
    refine ⟨M3, frE_RepM hC1 f3, f1.tr ⟨fun c h => f3.1 c (by omega) (by omega) (by omega), f3.1 59 (by decide) (by decide) (by decide), f3.1 71 (by decide) (by decide) (by decide), f3.1 72 (by decide) (by decide) (by decide), f3.1 73 (by decide) (by decide) (by decide), f3.1 74 (by decide) (by decide) (by decide), f3.2 10 (by decide) (by decide), f3.2 28 (by decide) (by decide)⟩, frE_WHO r3 f3, ?_, fun d Q => ?_⟩
    · obtain ⟨q1, q2, q3⟩ := s5
      exact ⟨by rw [n1 53 (by decide)]; exact q1, by rw [n1 53 (by decide)]; exact q2, fun q k x hk => by rw [n1 70 (by decide)]; exact q3 q k x hk⟩
    · have e24 := r3.1
      have hpos : (0 < nI (wlS S t).length) = True := by rw [i_0l (by omega)]; exact eq_true (by omega)
      rw [st]
      simp (disch := omega) only [s_154_76, s_154_77, s_154_80, s_154_83, s_154_84, s_154_87, s_154_88, s_154_89, s_154_90, ↓reduceIte, e24, hpos, n1_0]
      rw [s6]
      simp (disch := omega) only [s_154_189, s_154_190, s_154_193, s_154_194, s_154_89, s_154_90, s_154_197, ↓reduceIte, n2, ap_some, n0_0]
theorem FW_w (hW : WF S) : Int32.ofInt (sN (fun r => if (KK S t).testBit r then MN (sr S t) (rlK (KK S t) r) (wo (KK S t) (2 ^ r)) else 0) 6) = nI (FW S t).1 := by
  rw [← cnt_MN KK_lt (fun c => sr_lt) (fun c => sr_self hW) (fun c p => sr_K hW.1)]
  unfold FW
  rw [fold_w, nI_oi, Nat.zero_add]
  rfl
theorem ways_ex {g : Nat → Nat} {src : Nat → Nat} {K : Nat} (hK : K < 64) (hs : ∀ c p, (src c).testBit p = true → K.testBit p = true) (hv : vld src (wlK K) g = true) : (fun c => if c ∈ wlK K then g c else 9) ∈ en (wlK K ++ [9]) (wlK K) (fun _ => 9) ∧ vld src (wlK K) (fun c => if c ∈ wlK K then g c else 9) = true := by
  obtain ⟨v1, v2, v3⟩ := vld_of hv
  have gv : ∀ c, c ∈ wlK K → g c ∈ wlK K ∨ g c = 9 := fun c hc => by
    obtain ⟨c6, cK⟩ := wlK_mem.mp hc
    rcases v1 c c6 cK with q | q
    · exact Or.inr q
    · exact Or.inl (wlK_mem.mpr ⟨tb_lt (n := 6) hK (hs c _ q), hs c _ q⟩)
  have e : ∀ c, c ∈ wlK K → (fun c => if c ∈ wlK K then g c else 9) c = g c := fun c hc => if_pos hc
  have itE : ∀ j c, (c ∈ wlK K ∨ c = 9) → it (fun c => if c ∈ wlK K then g c else 9) j c = it g j c := by
    intro j
    induction j with
    | zero => intro c _; rfl
    | succ j ih =>
      intro c hc
      rw [it, it]
      by_cases q : c = 9
      · rw [if_pos q, if_pos q]
      · have hcm := hc.resolve_right q
        rw [if_neg q, if_neg q, if_pos hcm]
        exact ih _ (gv c hcm)
  refine ⟨(mem_en _ _).mpr ⟨fun c hc => ?_, fun c hc => if_neg hc⟩, ?_⟩
  · rw [if_pos hc]
    rcases gv c hc with q | q
    · exact List.mem_append_left _ q
    · rw [q]; exact List.mem_append_right _ (List.mem_singleton.mpr rfl)
  · unfold vld okg rts acy at hv ⊢
    simp only [Bool.and_eq_true, List.all_eq_true] at hv ⊢
    obtain ⟨a1, a2, a3⟩ := hv
    refine ⟨fun c hc => by rw [if_pos hc]; exact a1 c hc, ?_, fun c hc => by rw [itE _ c (Or.inl hc)]; exact a3 c hc⟩
    rw [← a2]
    congr 1
    exact List.countP_congr fun c hc => by rw [if_pos hc]
theorem FW_f (hW : WF S) : mskn (fmf (sr S t) (KK S t) (KK S t)) 6 = (FW S t).2.1 := by
  have w1 := hW.1
  apply Nat.eq_of_testBit_eq
  intro i
  rw [Bool.eq_iff_iff, mskn_bit]
  unfold FW
  rw [fold_f]
  unfold fmf
  simp only [Bool.and_eq_true, decide_eq_true_eq, Nat.zero_testBit, Bool.false_eq_true, false_or]
  constructor
  · rintro ⟨i6, iK, hr⟩
    obtain ⟨g, hg, gi⟩ := (reach_iff KK_lt (fun c p => sr_K w1) (fun c h => sr_0 w1 h) iK).mp hr
    obtain ⟨e1, e2⟩ := ways_ex KK_lt (fun c p => sr_K w1) hg
    have hm : i ∈ wlK (KK S t) := wlK_mem.mpr ⟨i6, iK⟩
    exact ⟨_, e1, e2, hm, by rw [if_pos hm]; exact gi⟩
  · rintro ⟨g, -, hv, hm, gi⟩
    obtain ⟨i6, iK⟩ := wlK_mem.mp hm
    exact ⟨i6, iK, (reach_iff KK_lt (fun c p => sr_K w1) (fun c h => sr_0 w1 h) iK).mpr ⟨g, hv, gi⟩⟩
end RUN
section OM
variable {S : Nat → Nat → Nat} {x y : Int32}
theorem op_mouths (hW : WF S) : opS 33 155 [some (.ref 1), some (.int x), some (.int y)] [some (.ref 53), some (.int x), some (.int y)] S := by
  have c0 : (y < 0) = (y.toInt < 0) := x_l0 y
  have c1 : (nI 1 < y) = (1 < y.toInt) := x_nl y (by decide)
  have i01 : ∀ d h Q, Go d 114 0 [some (.long y.toInt64), none, some (.long (lN 0)), none, some (.long (lN 1)), none] [] h Q = Q (some (.int (bI (decide (0 ≤ y.toInt ∧ y.toInt ≤ 1))))) h := fun d h Q => in_ab y 0 1 (by decide) (by decide) d h Q
  by_cases h1 : isr x 4 = true
  · by_cases h2 : 0 ≤ y.toInt ∧ y.toInt ≤ 1
    · obtain ⟨t, ht, -, rfl⟩ := isr_of h1
      have d0 : (y < 0) = False := by rw [c0]; exact eq_false (by omega)
      have d1 : (nI 1 < y) = False := by rw [c1]; exact eq_false (by omega)
      rw [decide_eq_true h2] at i01
      obtain ⟨v, hv, rfl⟩ : ∃ v, v ≤ 1 ∧ y = nI v := by
        obtain ⟨j, hj, rfl⟩ := nI_of (x := y) (by rw [x_l0]; omega)
        rw [i_int hj] at h2
        exact ⟨j, by omega, rfl⟩
      refine ⟨if v = 0 then nI (FW S t).1 else nI (FW S t).2.1, S, hW, fun lx xs M hC hB => ?_, fun lx xs M hC => ?_⟩
      · obtain ⟨M1, r1, r2, r3⟩ := c_X2_listen (lx := lx) (xs := xs) hW ht hC
        have r4 := r3 1997
        simp only [Nat.reduceAdd] at r4
        by_cases hv0 : v = 0
        · obtain ⟨M2, s1, s2⟩ := c_X2_countWays (lx := lx) (xs := xs) (fun c => sr_lt) KK_lt r2
          have s3 := s2 1988
          simp only [Nat.reduceAdd] at s3
          refine ⟨M2, RepC_eq hC fun c p q => (s1 c (by omega)).trans (r1 c (by omega) (by omega)), fun i hi => by rw [s1 5 (by decide), r1 5 (by decide) (by decide)]; exact hB i hi, fun c hc => (s1 c (by unfold prC at hc; omega)).trans (r1 c (by unfold prC at hc; omega) (by unfold prC at hc; omega)), fun Q => ?_⟩
          rw [if_pos hv0, ← FW_w hW]
          subst hv0
          simp (disch := omega) only [s_33_0, s_33_1, s_33_4, s_33_7, s_33_8, s_33_11, s_33_12, s_33_13, s_33_16, s_33_17, s_33_18, s_33_19, s_33_22, s_33_23, s_33_26, s_33_27, s_33_30, s_33_31, s_33_34, s_33_35, s_33_38, s_33_41, s_33_44, s_33_45, s_33_48, s_33_51, ↓reduceIte, c_X6_isThing, h1, ap_some, ap_none, bI_0, Bool.true_eq_false, d0, d1, r4, n0_0, s3]
        · have e1 : v = 1 := by omega
          have fm := fun Q => c_X2_firstMouths (d := 1997) (Q := Q) (lx := lx) (xs := xs) r2 (fun c => sr_lt) KK_lt KK_lt
          simp only [Nat.reduceAdd] at fm
          refine ⟨M1, RepC_eq hC fun c p q => r1 c (by omega) (by omega), fun i hi => by rw [r1 5 (by decide) (by decide)]; exact hB i hi, fun c hc => r1 c (by unfold prC at hc; omega) (by unfold prC at hc; omega), fun Q => ?_⟩
          rw [if_neg hv0, ← FW_f hW]
          subst e1
          simp (disch := omega) only [s_33_0, s_33_1, s_33_4, s_33_7, s_33_8, s_33_11, s_33_12, s_33_13, s_33_16, s_33_17, s_33_18, s_33_19, s_33_22, s_33_23, s_33_26, s_33_27, s_33_30, s_33_31, s_33_34, s_33_35, s_33_38, s_33_41, s_33_44, s_33_45, s_33_48, s_33_51, ↓reduceIte, c_X6_isThing, h1, ap_some, ap_none, bI_0, Bool.true_eq_false, d0, d1, r4, n1_0, fm]
      · obtain ⟨M1, r1, r2, r3, r4, r5⟩ := c_X7_findWays (lx := lx) (xs := xs) hW ht hC
        refine ⟨M1, r1, r2, fun Q => ?_⟩
        have r6 := r5 1995
        simp only [Nat.reduceAdd] at r6
        obtain ⟨a1, a2, a3⟩ := r4
        by_cases hv0 : v = 0
        · rw [if_pos hv0]
          subst hv0
          simp (disch := omega) only [s_155_0, s_155_1, s_155_4, s_155_7, s_155_8, s_155_9, s_155_10, s_155_11, s_155_14, s_155_17, s_155_18, s_155_19, s_155_20, s_155_21, s_155_24, s_155_25, s_155_28, s_155_29, s_155_32, s_155_35, s_155_36, s_155_39, ↓reduceIte, c_X7_isThing, h1, ap_some, ap_none, bI_0, Bool.true_eq_false, i01, r6, n0_0, a1]
        · have e1 : v = 1 := by omega
          rw [if_neg hv0]
          subst e1
          simp (disch := omega) only [s_155_0, s_155_1, s_155_4, s_155_7, s_155_8, s_155_9, s_155_10, s_155_11, s_155_14, s_155_17, s_155_18, s_155_19, s_155_20, s_155_21, s_155_24, s_155_25, s_155_28, s_155_29, s_155_32, s_155_35, s_155_36, s_155_39, ↓reduceIte, c_X7_isThing, h1, ap_some, ap_none, bI_0, Bool.true_eq_false, i01, r6, n1_0, a2]
    · rw [decide_eq_false h2] at i01
      refine opS_same (-1) hW (fun lx xs M hC Q => ?_) (fun lx xs M hC Q => ?_)
      · by_cases h4 : y.toInt < 0
        · have d0 : (y < 0) = True := by rw [c0]; exact eq_true h4
          simp (disch := omega) only [s_33_0, s_33_1, s_33_4, s_33_7, s_33_8, s_33_11, s_33_12, s_33_13, s_33_16, s_33_17, ↓reduceIte, c_X6_isThing, h1, ap_some, bI_0, Bool.true_eq_false, d0]
        · have d0 : (y < 0) = False := by rw [c0]; exact eq_false h4
          have d1 : (nI 1 < y) = True := by rw [c1]; exact eq_true (by omega)
          simp (disch := omega) only [s_33_0, s_33_1, s_33_4, s_33_7, s_33_8, s_33_11, s_33_12, s_33_13, s_33_16, s_33_17, ↓reduceIte, c_X6_isThing, h1, ap_some, bI_0, Bool.true_eq_false, d0, d1]
      · simp (disch := omega) only [s_155_0, s_155_1, s_155_4, s_155_7, s_155_8, s_155_9, s_155_10, s_155_11, s_155_14, s_155_17, s_155_18, ↓reduceIte, c_X7_isThing, h1, ap_some, bI_0, Bool.true_eq_false, i01]
  · rw [Bool.not_eq_true] at h1
    refine opS_same (-1) hW (fun lx xs M hC Q => ?_) (fun lx xs M hC Q => ?_)
    · simp (disch := omega) only [s_33_0, s_33_1, s_33_4, s_33_7, s_33_8, s_33_11, s_33_12, s_33_13, s_33_16, s_33_17, ↓reduceIte, c_X6_isThing, h1, ap_some, bI_0]
    · simp (disch := omega) only [s_155_0, s_155_1, s_155_4, s_155_7, s_155_8, s_155_9, s_155_10, s_155_11, s_155_14, s_155_17, s_155_18, ↓reduceIte, c_X7_isThing, h1, ap_some, bI_0]
end OM
