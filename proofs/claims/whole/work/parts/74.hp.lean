/-! hours: what can be taught within so many (nothing of the machine) -/
def sub (X Y : Nat) : Prop := ∀ j, X.testBit j = true → Y.testBit j = true
theorem sub_rf (X : Nat) : sub X X := fun _ h => h
theorem sub_tr {X Y Z : Nat} (a : sub X Y) (b : sub Y Z) : sub X Z := fun j h => b j (a j h)
theorem sub_as {X Y : Nat} (a : sub X Y) (b : sub Y X) : X = Y := Nat.eq_of_testBit_eq fun i => by rw [Bool.eq_iff_iff]; exact ⟨a i, b i⟩
theorem sub_or (X Y : Nat) : sub X (X ||| Y) := fun j h => by rw [Nat.testBit_or, h]; rfl
abbrev tr3 : Type := Nat × Nat × Nat
def vb (w : Nat) (x : tr3) : Nat := 2 ^ (x.2.1 * w + x.2.2)
def val (w : Nat) : Nat → List tr3 → Nat
  | th, [] => th
  | th, x :: l => val w (th ||| vb w x) l
/-- teachings that may be at once, of children of a set -/
def MT (w : Nat) (T : Nat → Nat → Nat → Nat → Bool) (X : Nat) : Nat → List tr3 → Prop
  | _, [] => True
  | F, x :: l => F.testBit x.1 = true ∧ F.testBit x.2.1 = true ∧ x.1 ≠ x.2.1 ∧ x.2.2 < w ∧ T X x.1 x.2.1 x.2.2 = true ∧ MT w T X (wo (wo F (2 ^ x.1)) (2 ^ x.2.1)) l
def un : Nat → List tr3 → Nat
  | F, [] => F
  | F, x :: l => un (wo (wo F (2 ^ x.1)) (2 ^ x.2.1)) l
/-- all is known after h hours -/
def Rh (w : Nat) (T : Nat → Nat → Nat → Nat → Bool) (full all : Nat) : Nat → Nat → Prop
  | 0, X => X = full
  | h + 1, X => ∃ l, MT w T X all l ∧ Rh w T full all h (val w X l)
theorem wo_c (F a b : Nat) : wo (wo F a) b = wo (wo F b) a := Nat.eq_of_testBit_eq fun i => by
  rw [wo_bit, wo_bit, wo_bit, wo_bit]
  cases F.testBit i <;> cases a.testBit i <;> cases b.testBit i <;> rfl
theorem wo_b {F a i : Nat} : (wo F (2 ^ a)).testBit i = true ↔ F.testBit i = true ∧ i ≠ a := by
  rw [wo_bit]
  by_cases e : i = a
  · subst e; rw [Nat.testBit_two_pow_self]; simp
  · rw [Nat.testBit_two_pow_of_ne (fun q => e q.symm)]; simp [e]
section HPU
variable {w n full all st X Y F G th : Nat} {T : Nat → Nat → Nat → Nat → Bool}
theorem val_bit {j : Nat} : ∀ l th, (val w th l).testBit j = true ↔ th.testBit j = true ∨ ∃ x, x ∈ l ∧ j = x.2.1 * w + x.2.2 := by
  intro l
  induction l with
  | nil => intro th; rw [val]; simp
  | cons x l ih =>
    intro th
    rw [val, ih, Nat.testBit_or, Bool.or_eq_true]
    have e : (vb w x).testBit j = true ↔ j = x.2.1 * w + x.2.2 := by
      unfold vb
      constructor
      · exact fun q => bit_p q
      · intro q; rw [q]; exact Nat.testBit_two_pow_self
    rw [e]
    constructor
    · rintro ((q | q) | ⟨y, q1, q2⟩)
      · exact Or.inl q
      · exact Or.inr ⟨x, List.mem_cons_self, q⟩
      · exact Or.inr ⟨y, List.mem_cons_of_mem _ q1, q2⟩
    · rintro (q | ⟨y, q1, q2⟩)
      · exact Or.inl (Or.inl q)
      · rcases List.mem_cons.mp q1 with z | z
        · rw [z] at q2; exact Or.inl (Or.inr q2)
        · exact Or.inr ⟨y, z, q2⟩
theorem val_sub (l : List tr3) (th : Nat) : sub th (val w th l) := fun j h => (val_bit l th).mpr (Or.inl h)
theorem MT_F : ∀ l F G, sub F G → MT w T X F l → MT w T X G l := by
  intro l
  induction l with
  | nil => intro F G _ _; trivial
  | cons x l ih =>
    intro F G hs h
    obtain ⟨a, b, c, d, e, f⟩ := h
    refine ⟨hs _ a, hs _ b, c, d, e, ih _ _ (fun j hj => ?_) f⟩
    rw [wo_b, wo_b] at hj ⊢
    exact ⟨⟨hs j hj.1.1, hj.1.2⟩, hj.2⟩
theorem wo_sub (F a : Nat) : sub (wo F a) F := fun j h => by rw [wo_bit, Bool.and_eq_true] at h; exact h.1
theorem MT_swap {x y : tr3} {l : List tr3} (h : MT w T X F (y :: x :: l)) : MT w T X F (x :: y :: l) := by
  obtain ⟨a1, a2, a3, a4, a5, b1, b2, b3, b4, b5, b6⟩ := h
  rw [wo_b, wo_b] at b1 b2
  refine ⟨b1.1.1, b2.1.1, b3, b4, b5, ?_, ?_, a3, a4, a5, ?_⟩
  · rw [wo_b, wo_b]; exact ⟨⟨a1, fun q => b1.1.2 q.symm⟩, fun q => b2.1.2 q.symm⟩
  · rw [wo_b, wo_b]; exact ⟨⟨a2, fun q => b1.2 q.symm⟩, fun q => b2.2 q.symm⟩
  · rw [show wo (wo (wo (wo F (2 ^ x.1)) (2 ^ x.2.1)) (2 ^ y.1)) (2 ^ y.2.1) = wo (wo (wo (wo F (2 ^ y.1)) (2 ^ y.2.1)) (2 ^ x.1)) (2 ^ x.2.1) by
      rw [wo_c (wo F (2 ^ x.1)) (2 ^ x.2.1), wo_c F (2 ^ x.1), wo_c (wo (wo F (2 ^ y.1)) (2 ^ x.1)) (2 ^ x.2.1), wo_c (wo F (2 ^ y.1)) (2 ^ x.1)]]
    exact b6
theorem MT_rm : ∀ l F a, MT w T X F l → F.testBit a = true → MT w T X (wo F (2 ^ a)) l ∨ ∃ x l', (x.1 = a ∨ x.2.1 = a) ∧ MT w T X F (x :: l') ∧ l'.length + 1 = l.length ∧ ∀ th, val w th l = val w th (x :: l') := by
  intro l
  induction l with
  | nil => intro F a _ _; exact Or.inl trivial
  | cons y l ih =>
    intro F a h ha
    by_cases hy : y.1 = a ∨ y.2.1 = a
    · exact Or.inr ⟨y, l, hy, h, rfl, fun _ => rfl⟩
    · obtain ⟨a1, a2, a3, a4, a5, a6⟩ := h
      have n1 : a ≠ y.1 := fun q => hy (Or.inl q.symm)
      have n2 : a ≠ y.2.1 := fun q => hy (Or.inr q.symm)
      rcases ih _ a a6 (by rw [wo_b, wo_b]; exact ⟨⟨ha, n1⟩, n2⟩) with q | ⟨x, l', q1, q2, q3, q4⟩
      · left
        refine ⟨by rw [wo_b]; exact ⟨a1, fun z => n1 z.symm⟩, by rw [wo_b]; exact ⟨a2, fun z => n2 z.symm⟩, a3, a4, a5, ?_⟩
        rw [wo_c F (2 ^ a), wo_c (wo F (2 ^ y.1)) (2 ^ a)]
        exact q
      · right
        refine ⟨x, y :: l', q1, MT_swap ⟨a1, a2, a3, a4, a5, q2⟩, by rw [List.length_cons, List.length_cons]; omega, fun th => ?_⟩
        rw [val, q4, val, val, val, Nat.or_assoc, Nat.or_assoc, Nat.or_comm (vb w y)]
theorem MT_un : ∀ l F a, MT w T X F l → (un F l).testBit a = true → F.testBit a = true ∧ MT w T X (wo F (2 ^ a)) l ∧ un (wo F (2 ^ a)) l = wo (un F l) (2 ^ a) := by
  intro l
  induction l with
  | nil => intro F a _ h; exact ⟨h, trivial, rfl⟩
  | cons y l ih =>
    intro F a h hu
    obtain ⟨a1, a2, a3, a4, a5, a6⟩ := h
    rw [un] at hu
    obtain ⟨b1, b2, b3⟩ := ih _ a a6 hu
    rw [wo_b, wo_b] at b1
    have c1 : wo (wo (wo F (2 ^ a)) (2 ^ y.1)) (2 ^ y.2.1) = wo (wo (wo F (2 ^ y.1)) (2 ^ y.2.1)) (2 ^ a) := by rw [wo_c F (2 ^ a), wo_c (wo F (2 ^ y.1)) (2 ^ a)]
    refine ⟨b1.1.1, ⟨by rw [wo_b]; exact ⟨a1, fun z => b1.1.2 z.symm⟩, by rw [wo_b]; exact ⟨a2, fun z => b1.2 z.symm⟩, a3, a4, a5, by rw [c1]; exact b2⟩, ?_⟩
    rw [un, c1, b3, un]
theorem pcn_wo6 : ∀ F, F < 64 → ∀ a, a < 6 → F.testBit a = true → pcn (wo F (2 ^ a)) + 1 = pcn F := by decide +kernel
theorem un_lt : ∀ l F, F < 64 → un F l < 64 := by
  intro l
  induction l with
  | nil => intro F h; exact h
  | cons y l ih => intro F h; exact ih _ (wo_64 (wo_64 h))
theorem MT_len : ∀ l F, F < 64 → MT w T X F l → 2 * l.length ≤ pcn F := by
  intro l
  induction l with
  | nil => intro F _ _; exact Nat.zero_le _
  | cons y l ih =>
    intro F hF h
    obtain ⟨a1, a2, a3, a4, a5, a6⟩ := h
    have h1 := ih _ (wo_64 (wo_64 hF)) a6
    have h2 := pcn_wo6 F hF y.1 (tb_lt (n := 6) hF a1) a1
    have h3 := pcn_wo6 (wo F (2 ^ y.1)) (wo_64 hF) y.2.1 (tb_lt (n := 6) hF a2) (by rw [wo_b]; exact ⟨a2, fun q => a3 q.symm⟩)
    rw [List.length_cons]
    omega
def pt (w : Nat) (T : Nat → Nat → Nat → Nat → Bool) (X x y : Nat) : Prop := ∃ i, i < w ∧ (T X x y i = true ∨ T X y x i = true)
theorem MT_max : ∀ k l F, F < 64 → pcn (un F l) ≤ k → MT w T X F l → ∃ l', MT w T X F l' ∧ (∀ x y, (un F l').testBit x = true → (un F l').testBit y = true → x ≠ y → ¬ pt w T X x y) ∧ ∀ th, sub (val w th l) (val w th l') := by
  intro k
  induction k with
  | zero =>
    intro l F hF hk h
    refine ⟨l, h, fun x y hx hy hxy _ => ?_, fun th => sub_rf _⟩
    have u := un_lt l F hF
    have := pcn_wo6 (un F l) u x (tb_lt (n := 6) u hx) hx
    omega
  | succ k ih =>
    intro l F hF hk h
    by_cases hm : ∀ x y, (un F l).testBit x = true → (un F l).testBit y = true → x ≠ y → ¬ pt w T X x y
    · exact ⟨l, h, hm, fun th => sub_rf _⟩
    · have hm2 : ∃ x y, (un F l).testBit x = true ∧ (un F l).testBit y = true ∧ x ≠ y ∧ pt w T X x y := by
        refine Classical.byContradiction fun q => hm fun x y h1 h2 h3 h4 => q ⟨x, y, h1, h2, h3, h4⟩
      obtain ⟨x, y, hx, hy, hxy, i, hi, hT⟩ := hm2
      have u := un_lt l F hF
      -- both can be joined
      have join : ∀ x y, (un F l).testBit x = true → (un F l).testBit y = true → x ≠ y → T X x y i = true → ∃ l', MT w T X F l' ∧ (∀ x y, (un F l').testBit x = true → (un F l').testBit y = true → x ≠ y → ¬ pt w T X x y) ∧ ∀ th, sub (val w th l) (val w th l') := by
        intro x y hx hy hxy hT
        obtain ⟨p1, p2, p3⟩ := MT_un l F x h hx
        obtain ⟨q1, q2, q3⟩ := MT_un l (wo F (2 ^ x)) y p2 (by rw [p3, wo_b]; exact ⟨hy, fun z => hxy z.symm⟩)
        have c1 := pcn_wo6 (un F l) u x (tb_lt (n := 6) u hx) hx
        have c2 := pcn_wo6 (wo (un F l) (2 ^ x)) (wo_64 u) y (tb_lt (n := 6) u hy) (by rw [wo_b]; exact ⟨hy, fun z => hxy z.symm⟩)
        obtain ⟨l', m1, m2, m3⟩ := ih ((x, y, i) :: l) F hF (by rw [un]; dsimp only; rw [q3, p3]; omega) ⟨p1, (wo_b.mp q1).1, hxy, hi, hT, q2⟩
        refine ⟨l', m1, m2, fun th j hj => m3 th j ?_⟩
        rw [val_bit] at hj ⊢
        rcases hj with z | ⟨x', z1, z2⟩
        · exact Or.inl z
        · exact Or.inr ⟨x', List.mem_cons_of_mem _ z1, z2⟩
      rcases hT with hT | hT
      · exact join x y hx hy hxy hT
      · exact join y x hy hx (fun z => hxy z.symm) hT
/-- what a set of teachings adds lies within what all know at the end -/
theorem val_full (hf : ∀ b i, all.testBit b = true → i < w → full.testBit (b * w + i) = true) : ∀ l F th, sub F all → MT w T X F l → sub th full → sub (val w th l) full := by
  intro l
  induction l with
  | nil => intro F th _ _ h; exact h
  | cons x l ih =>
    intro F th hF h ht
    obtain ⟨a1, a2, a3, a4, a5, a6⟩ := h
    rw [val]
    refine ih _ _ (sub_tr (wo_sub _ _) (sub_tr (wo_sub _ _) hF)) a6 (fun j hj => ?_)
    rw [Nat.testBit_or, Bool.or_eq_true] at hj
    rcases hj with q | q
    · exact ht j q
    · rw [bit_p q]; exact hf _ _ (hF _ a2) a4
theorem MT_filter (hT : ∀ a b i, T X a b i = true → Y.testBit (b * w + i) = false → T Y a b i = true) : ∀ l F, MT w T X F l → MT w T Y F (l.filter (fun x => !Y.testBit (x.2.1 * w + x.2.2))) := by
  intro l
  induction l with
  | nil => intro F _; trivial
  | cons x l ih =>
    intro F h
    obtain ⟨a1, a2, a3, a4, a5, a6⟩ := h
    rw [List.filter_cons]
    by_cases q : Y.testBit (x.2.1 * w + x.2.2) = true
    · rw [q, if_neg (by simp)]
      exact MT_F _ _ _ (sub_tr (wo_sub _ _) (wo_sub _ _)) (ih _ a6)
    · rw [Bool.not_eq_true] at q
      rw [q, if_pos (by rfl)]
      exact ⟨a1, a2, a3, a4, hT _ _ _ a5 q, ih _ a6⟩
/-- to know more never hinders -/
theorem Rh_mono (hf : ∀ b i, all.testBit b = true → i < w → full.testBit (b * w + i) = true) (hT : ∀ X Y, sub st X → sub X Y → ∀ a b i, T X a b i = true → Y.testBit (b * w + i) = false → T Y a b i = true) : ∀ h X Y, sub st X → sub X Y → sub Y full → Rh w T full all h X → Rh w T full all h Y := by
  intro h
  induction h with
  | zero =>
    intro X Y _ hXY hY hR
    have hR : X = full := hR
    rw [hR] at hXY
    exact sub_as hY hXY
  | succ h ih =>
    intro X Y hX hXY hY hR
    obtain ⟨l, hl, hR⟩ := hR
    have hl' := MT_filter (hT X Y hX hXY) l all hl
    refine ⟨_, hl', ih _ _ (sub_tr hX (val_sub _ _)) (fun j hj => ?_) (val_full hf _ _ _ (sub_rf _) hl' hY) hR⟩
    rw [val_bit] at hj ⊢
    rcases hj with q | ⟨x, q1, q2⟩
    · exact Or.inl (hXY j q)
    · by_cases z : Y.testBit (x.2.1 * w + x.2.2) = true
      · left; rw [q2]; exact z
      · right
        rw [Bool.not_eq_true] at z
        exact ⟨x, List.mem_filter.mpr ⟨q1, by rw [z]; rfl⟩, q2⟩
theorem Rh_up : ∀ h X, Rh w T full all h X → Rh w T full all (h + 1) X := by
  intro h X hR
  exact ⟨[], trivial, hR⟩
theorem Rh_le {h X : Nat} (hR : Rh w T full all h X) : ∀ k, h ≤ k → Rh w T full all k X := by
  intro k
  induction k with
  | zero => intro hk; rw [show h = 0 by omega] at hR; exact hR
  | succ k ih =>
    intro hk
    by_cases e : h = k + 1
    · rw [← e]; exact hR
    · exact Rh_up k X (ih (by omega))
/-- how many are lacking -/
def lk (full X : Nat) : Nat := pcn (wo full X)
theorem cP_le {p q : Nat → Bool} {j : Nat} (h : ∀ i, p i = true → q i = true ∨ i = j) : ∀ m, (List.range m).countP p ≤ (List.range m).countP q + (if j < m then 1 else 0) := by
  intro m
  induction m with
  | zero => exact Nat.zero_le _
  | succ m ih =>
    rw [List.range_succ, List.countP_append, List.countP_append, List.countP_singleton, List.countP_singleton]
    by_cases hp : p m = true
    · rw [if_pos hp]
      rcases h m hp with z | z
      · rw [if_pos z]
        have : (if j < m then 1 else 0) ≤ (if j < m + 1 then 1 else 0) := by split <;> split <;> omega
        omega
      · have e1 : (if j < m then 1 else 0) = 0 := if_neg (by omega)
        rw [if_pos (by omega : j < m + 1)]
        rw [e1] at ih
        omega
    · rw [if_neg hp]
      have : (if j < m then 1 else 0) ≤ (if j < m + 1 then 1 else 0) := by split <;> split <;> omega
      omega
theorem lk_or (full th j : Nat) : lk full th ≤ lk full (th ||| 2 ^ j) + 1 := by
  unfold lk pcn
  have := cP_le (p := fun i => (wo full th).testBit i) (q := fun i => (wo full (th ||| 2 ^ j)).testBit i) (j := j) (fun i hi => by
    by_cases e : i = j
    · exact Or.inr e
    · left
      rw [wo_bit, Bool.and_eq_true, Bool.not_eq_true'] at hi ⊢
      refine ⟨hi.1, ?_⟩
      rw [Nat.testBit_or, hi.2, Nat.testBit_two_pow_of_ne (fun q => e q.symm)]
      rfl) 12
  split at this <;> omega
theorem lk_val : ∀ l th, lk full th ≤ lk full (val w th l) + l.length := by
  intro l
  induction l with
  | nil => intro th; exact Nat.le_refl _
  | cons x l ih =>
    intro th
    have h1 := lk_or full th (x.2.1 * w + x.2.2)
    have h2 := ih (th ||| vb w x)
    rw [val, List.length_cons]
    unfold vb at h2 ⊢
    omega
theorem lk_full (full : Nat) : lk full full = 0 := by
  unfold lk
  rw [show wo full full = 0 from Nat.eq_of_testBit_eq fun i => by rw [wo_bit, Nat.zero_testBit]; cases full.testBit i <;> rfl]
  decide
theorem Rh_lk (hall : all < 64) (hn : pcn all = n) : ∀ h X, Rh w T full all h X → lk full X ≤ h * (n / 2) := by
  intro h
  induction h with
  | zero => intro X hR; have hR : X = full := hR; rw [hR, lk_full]; exact Nat.zero_le _
  | succ h ih =>
    intro X hR
    obtain ⟨l, hl, hR⟩ := hR
    have h1 := ih _ hR
    have h2 := lk_val (w := w) (full := full) l X
    have h3 := MT_len l all hall hl
    rw [Nat.succ_mul]
    omega
end HPU
