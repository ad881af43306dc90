/-! ways: how many, as a sum of determinants -/
def lsum (V : List Nat) (f : Nat → Int) : Int := (V.map f).sum
theorem lsum_nil {f : Nat → Int} : lsum [] f = 0 := rfl
theorem lsum_cons {f : Nat → Int} {v : Nat} {V : List Nat} : lsum (v :: V) f = f v + lsum V f := by unfold lsum; rw [List.map_cons, List.sum_cons]
theorem lsum_append {f : Nat → Int} : ∀ A B : List Nat, lsum (A ++ B) f = lsum A f + lsum B f := by
  intro A B
  induction A with
  | nil => rw [List.nil_append, lsum_nil, Int.zero_add]
  | cons a A ih => rw [List.cons_append, lsum_cons, lsum_cons, ih, Int.add_assoc]
theorem lsum_congr {f g : Nat → Int} : ∀ V : List Nat, (∀ v, v ∈ V → f v = g v) → lsum V f = lsum V g := by
  intro V
  induction V with
  | nil => intro _; rfl
  | cons v V ih => intro h; rw [lsum_cons, lsum_cons, h v List.mem_cons_self, ih fun u hu => h u (List.mem_cons_of_mem _ hu)]
theorem lsum_zero : ∀ V : List Nat, lsum V (fun _ => 0) = 0 := by
  intro V
  induction V with
  | nil => rfl
  | cons v V ih => rw [lsum_cons, ih]; rfl
theorem lsum_sN {F : Nat → Nat → Int} {k : Nat} : ∀ V : List Nat, lsum V (fun r => sN (F r) k) = sN (fun p => lsum V (fun r => F r p)) k := by
  intro V
  induction V with
  | nil => exact (sN_zero k).symm
  | cons v V ih =>
    rw [lsum_cons, ih, ← sN_add]
    exact sN_congr k fun p _ => (lsum_cons (f := fun r => F r p)).symm
theorem lsum_ls {p : Nat → Bool} {f : Nat → Int} : ∀ j, lsum (ls p j) f = sN (fun i => if p i then f i else 0) j := by
  intro j
  induction j with
  | zero => rfl
  | succ j ih =>
    rw [ls_s, sN, ← ih]
    by_cases h : p j = true
    · rw [if_pos h, lsum_append, if_pos h, lsum_cons, lsum_nil, Int.add_zero]
    · rw [if_neg h, if_neg h, Int.add_zero]
def en (V : List Nat) : List Nat → (Nat → Nat) → List (Nat → Nat)
  | [], g => [g]
  | c :: l, g => V.flatMap (fun v => en V l (fu g c v))
theorem mem_en {V : List Nat} {h : Nat → Nat} : ∀ l g, h ∈ en V l g ↔ (∀ c, c ∈ l → h c ∈ V) ∧ (∀ c, c ∉ l → h c = g c) := by
  intro l
  induction l with
  | nil =>
    intro g
    rw [en, List.mem_singleton]
    constructor
    · intro e; subst e; exact ⟨fun c hc => (by cases hc), fun _ _ => rfl⟩
    · rintro ⟨-, e⟩; exact funext fun c => e c (by simp)
  | cons c l ih =>
    intro g
    rw [en, List.mem_flatMap]
    constructor
    · rintro ⟨v, hv, hh⟩
      obtain ⟨a, b⟩ := (ih (fu g c v)).mp hh
      refine ⟨fun c2 hc2 => ?_, fun c2 hc2 => ?_⟩
      · by_cases e : c2 ∈ l
        · exact a c2 e
        · rcases List.mem_cons.mp hc2 with q | q
          · subst q; rw [b c2 e, fu_at]; exact hv
          · exact absurd q e
      · rw [b c2 (fun q => hc2 (List.mem_cons_of_mem _ q)), fu_off (i := c2) (c := c) (fun q => hc2 (by rw [q]; exact List.mem_cons_self))]
    · rintro ⟨a, b⟩
      refine ⟨h c, a c List.mem_cons_self, (ih _).mpr ⟨fun c2 hc2 => a c2 (List.mem_cons_of_mem _ hc2), fun c2 hc2 => ?_⟩⟩
      by_cases e : c2 = c
      · subst e; rw [fu_at]
      · rw [fu_off e]
        exact b c2 (fun q => by rcases List.mem_cons.mp q with q | q; exact e q; exact hc2 q)
def okg (src : Nat → Nat) (l : List Nat) (g : Nat → Nat) : Bool := l.all (fun c => g c == 9 || (src c).testBit (g c))
def rts (l : List Nat) (g : Nat → Nat) : Nat := l.countP (fun c => g c == 9)
/-- a way: one had it from nobody, each other from a source of its own, nobody by others from itself -/
def vld (src : Nat → Nat) (wl : List Nat) (g : Nat → Nat) : Bool := okg src wl g && (rts wl g == 1 && acy wl g)
def indA (wl : List Nat) (g : Nat → Nat) : Int := if acy wl g then 1 else 0
def AA (src : Nat → Nat) (wl : List Nat) : List Nat → (Nat → Nat) → Int
  | [], _ => 0
  | c :: l, g => sN (fun p => if (src c).testBit p then AA src wl l (fu g c p) else 0) 6 + SM src l (fu g c 9) (indA wl)
theorem cnt_fm {q : (Nat → Nat) → Bool} {f : Nat → List (Nat → Nat)} : ∀ W : List Nat, (((W.flatMap f).countP q : Nat) : Int) = lsum W (fun v => (((f v).countP q : Nat) : Int)) := by
  intro W
  induction W with
  | nil => rfl
  | cons v W ih => rw [List.flatMap_cons, List.countP_append, lsum_cons, ← ih, Int.natCast_add]
theorem wlK_mem {K c : Nat} : c ∈ wlK K ↔ c < 6 ∧ K.testBit c = true := by
  unfold wlK ls
  rw [List.mem_filter, List.mem_range]
theorem wlK_nd (K : Nat) : (wlK K).Nodup := by
  unfold wlK ls
  exact List.Pairwise.filter _ List.nodup_range
theorem okg_snoc {src : Nat → Nat} {pre : List Nat} {g : Nat → Nat} {c v : Nat} (hc : c ∉ pre) : okg src (pre ++ [c]) (fu g c v) = (okg src pre g && (v == 9 || (src c).testBit v)) := by
  unfold okg
  rw [List.all_append]
  congr 1
  · rw [Bool.eq_iff_iff, List.all_eq_true, List.all_eq_true]
    constructor <;> intro h x hx <;> have hx2 := h x hx <;> have e : x ≠ c := (fun q => hc (by rw [← q]; exact hx))
    · rw [fu_off e] at hx2; exact hx2
    · rw [fu_off e]; exact hx2
  · simp only [List.all_cons, List.all_nil, Bool.and_true, fu_at]
theorem rts_snoc {pre : List Nat} {g : Nat → Nat} {c v : Nat} (hc : c ∉ pre) : rts (pre ++ [c]) (fu g c v) = rts pre g + (if v = 9 then 1 else 0) := by
  unfold rts
  rw [List.countP_append]
  congr 1
  · apply List.countP_congr
    intro x hx
    rw [fu_off (fun q => hc (by rw [← q]; exact hx))]
  · rw [List.countP_singleton, fu_at]
    by_cases e : v = 9
    · rw [if_pos e, if_pos (by rw [e]; rfl)]
    · rw [if_neg e, if_neg (by simpa using e)]
section CN
variable {src : Nat → Nat} {K : Nat}
theorem lsum_wl {c : Nat} {X : Nat → Int} (hs : ∀ p, (src c).testBit p = true → K.testBit p = true) : lsum (wlK K) (fun v => if (src c).testBit v then X v else 0) = sN (fun p => if (src c).testBit p then X p else 0) 6 := by
  unfold wlK
  rw [lsum_ls]
  refine sN_congr 6 fun i _ => ?_
  by_cases h : (src c).testBit i = true
  · rw [if_pos h, if_pos (hs i h)]
  · rw [if_neg h]; split <;> rfl
theorem cnt_val (hs : ∀ c p, (src c).testBit p = true → K.testBit p = true) : ∀ l pre g, wlK K = pre ++ l → (((en (wlK K ++ [9]) l g).countP (vld src (wlK K)) : Nat) : Int) = if okg src pre g = true then (if rts pre g = 0 then AA src (wlK K) l g else if rts pre g = 1 then SM src l g (indA (wlK K)) else 0) else 0 := by
  intro l
  induction l with
  | nil =>
    intro pre g hw
    rw [List.append_nil] at hw
    rw [en, List.countP_singleton, AA, SM]
    unfold vld indA
    rw [hw]
    by_cases h1 : okg src pre g = true
    · rw [h1, if_pos rfl, Bool.true_and]
      by_cases h2 : rts pre g = 1
      · rw [h2]
        cases acy pre g <;> rfl
      · rw [if_neg h2, show (rts pre g == 1) = false from by simpa using h2]
        simp
    · rw [if_neg h1]
      rw [Bool.not_eq_true] at h1
      rw [h1]
      rfl
  | cons c l ih =>
    intro pre g hw
    have nd := wlK_nd K
    have hcp : c ∉ pre := by
      rw [hw, List.nodup_append] at nd
      exact fun q => (nd.2.2 c q c List.mem_cons_self) rfl
    rw [en, cnt_fm]
    rw [lsum_congr (g := fun v => if (okg src pre g && (v == 9 || (src c).testBit v)) = true then (if rts pre g + (if v = 9 then 1 else 0) = 0 then AA src (wlK K) l (fu g c v) else if rts pre g + (if v = 9 then 1 else 0) = 1 then SM src l (fu g c v) (indA (wlK K)) else 0) else 0) _ (fun v _ => by rw [ih (pre ++ [c]) (fu g c v) (by rw [hw, List.append_assoc]; rfl), okg_snoc hcp, rts_snoc hcp])]
    by_cases h1 : okg src pre g = true
    · rw [lsum_append, if_pos h1]
      have e1 : lsum (wlK K) (fun v => if (okg src pre g && (v == 9 || (src c).testBit v)) = true then (if rts pre g + (if v = 9 then 1 else 0) = 0 then AA src (wlK K) l (fu g c v) else if rts pre g + (if v = 9 then 1 else 0) = 1 then SM src l (fu g c v) (indA (wlK K)) else 0) else 0) = lsum (wlK K) (fun v => if (src c).testBit v then (if rts pre g = 0 then AA src (wlK K) l (fu g c v) else if rts pre g = 1 then SM src l (fu g c v) (indA (wlK K)) else 0) else 0) := by
        refine lsum_congr _ fun v hv => ?_
        have hv6 := (wlK_mem.mp hv).1
        have e9 : (v == 9) = false := by simp; omega
        rw [h1, e9, if_neg (by omega : ¬ v = 9), Bool.true_and, Bool.false_or, Nat.add_zero]
      rw [e1, lsum_wl (hs c), lsum_cons, lsum_nil, h1, if_pos (by rfl)]
      by_cases h2 : rts pre g = 0
      · rw [h2, if_pos rfl, AA]
        simp
      · rw [if_neg h2, if_neg (by simp)]
        by_cases h3 : rts pre g = 1
        · rw [h3, if_pos rfl, SM]
          simp
        · rw [if_neg h3, if_neg (by simp; omega)]
          simp only [h2, h3, ↓reduceIte, ite_self, sN_zero]
          rfl
    · rw [if_neg h1]
      rw [Bool.not_eq_true] at h1
      simp only [h1, Bool.false_and, Bool.false_eq_true, ↓reduceIte]
      exact lsum_zero _
theorem AA_sum {wl : List Nat} : ∀ l g, l.Nodup → AA src wl l g = lsum l (fun r => SM src (l.filter (fun c => c != r)) (fu g r 9) (indA wl)) := by
  intro l
  induction l with
  | nil => intro g _; rfl
  | cons c l ih =>
    intro g hn
    have hc : c ∉ l := (List.nodup_cons.mp hn).1
    have hn2 := (List.nodup_cons.mp hn).2
    rw [AA, lsum_cons, Int.add_comm]
    congr 1
    · congr 1
      rw [List.filter_cons, if_neg (by simp)]
      refine (List.filter_eq_self.mpr fun a ha => ?_).symm
      rw [bne_iff_ne]
      exact fun q => hc (by rw [← q]; exact ha)
    · have e : ∀ r, r ∈ l → SM src ((c :: l).filter (fun x => x != r)) (fu g r 9) (indA wl) = sN (fun p => if (src c).testBit p then SM src (l.filter (fun x => x != r)) (fu (fu g c p) r 9) (indA wl) else 0) 6 := by
        intro r hr
        have hcr : c ≠ r := fun q => hc (by rw [q]; exact hr)
        rw [List.filter_cons, if_pos (bne_iff_ne.mpr hcr), SM]
        exact sN_congr 6 fun p _ => by rw [fu_comm hcr]
      rw [lsum_congr l e, lsum_sN]
      refine sN_congr 6 fun p _ => ?_
      by_cases hb : (src c).testBit p = true
      · rw [if_pos hb, ih (fu g c p) hn2]
        exact lsum_congr l fun r _ => (if_pos hb).symm
      · rw [if_neg hb]
        rw [lsum_congr (g := fun _ => 0) l (fun r _ => if_neg hb), lsum_zero]
theorem rlK_mem {r c : Nat} : c ∈ rlK K r ↔ (c < 6 ∧ K.testBit c = true) ∧ c ≠ r := by
  unfold rlK
  rw [List.mem_filter, wlK_mem, bne_iff_ne]
theorem cnt_MN (hK : K < 64) (h64 : ∀ c, src c < 64) (hself : ∀ c, (src c).testBit c = false) (hs : ∀ c p, (src c).testBit p = true → K.testBit p = true) : (((en (wlK K ++ [9]) (wlK K) (fun _ => 9)).countP (vld src (wlK K)) : Nat) : Int) = sN (fun r => if K.testBit r then MN src (rlK K r) (wo K (2 ^ r)) else 0) 6 := by
  have g9 : ∀ r, fu (fun _ => 9) r 9 = fun _ => 9 := fun r => funext fun i => by unfold fu; split <;> rfl
  rw [cnt_val hs (wlK K) [] _ rfl, if_pos (show okg src [] (fun _ => 9) = true from rfl), if_pos (show rts [] (fun _ => 9) = 0 from rfl), AA_sum _ _ (wlK_nd K)]
  rw [lsum_congr (g := fun r => MN src (rlK K r) (wo K (2 ^ r))) (wlK K) (fun r hr => ?_)]
  · unfold wlK; rw [lsum_ls]
  · obtain ⟨r6, rK⟩ := wlK_mem.mp hr
    have nd : (rlK K r).Nodup := List.Pairwise.filter _ (wlK_nd K)
    rw [g9, MLin h64 hself (rlK K r) (wo K (2 ^ r)) (fun _ => 9) nd (fun c hc => (rlK_mem.mp hc).1.1)]
    refine SM_congr (rlK K r) _ nd fun h k1 k2 => ?_
    have k3 : ∀ c, c ∈ rlK K r → h c < 6 ∧ K.testBit (h c) = true ∧ h c ≠ c := fun c hc => by
      have b := k2 c hc
      exact ⟨tb_lt (n := 6) (h64 c) b, hs c _ b, fun q => by rw [q, hself c] at b; cases b⟩
    rw [MF_MQ _ _ (fun c hc => ⟨(rlK_mem.mp hc).1.1, (k3 c hc).1⟩), mq_acy hK rK k1 k3]
    rfl
end CN
