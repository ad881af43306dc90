/-! ways: sums over choices, determinants (nothing of the machine) -/
def sN (f : Nat → Int) : Nat → Int
  | 0 => 0
  | j + 1 => sN f j + f j
theorem sN_congr {f g : Nat → Int} : ∀ j, (∀ i, i < j → f i = g i) → sN f j = sN g j := by
  intro j
  induction j with
  | zero => intro _; rfl
  | succ j ih => intro h; rw [sN, sN, ih (fun i hi => h i (by omega)), h j (by omega)]
theorem sN_add {f g : Nat → Int} (j : Nat) : sN (fun i => f i + g i) j = sN f j + sN g j := by
  induction j with
  | zero => rfl
  | succ j ih => rw [sN, sN, sN, ih]; omega
theorem sN_mul {f : Nat → Int} (a : Int) (j : Nat) : sN (fun i => a * f i) j = a * sN f j := by
  induction j with
  | zero => rw [sN, sN, Int.mul_zero]
  | succ j ih => rw [sN, sN, ih, Int.mul_add]
theorem sN_zero (j : Nat) : sN (fun _ => 0) j = 0 := by
  induction j with
  | zero => rfl
  | succ j ih => rw [sN, ih]; rfl
theorem sN_swap {f : Nat → Nat → Int} (j k : Nat) : sN (fun i => sN (f i) k) j = sN (fun p => sN (fun i => f i p) j) k := by
  induction j with
  | zero => rw [sN]; exact (sN_zero k).symm
  | succ j ih =>
    rw [sN, ih, ← sN_add]
    rfl
theorem sN_one {f : Nat → Int} {c : Nat} : ∀ j, c < j → sN (fun i => if i = c then f i else 0) j = f c := by
  intro j
  induction j with
  | zero => intro h; omega
  | succ j ih =>
    intro h
    rw [sN]
    by_cases e : j = c
    · subst e
      rw [if_pos rfl, sN_congr (g := fun _ => 0) j (fun i hi => if_neg (by omega)), sN_zero, Int.zero_add]
    · rw [ih (by omega), if_neg e, Int.add_zero]
def fu (g : Nat → Nat) (c v : Nat) : Nat → Nat := fun i => if i = c then v else g i
theorem fu_at {g : Nat → Nat} {c v : Nat} : fu g c v c = v := if_pos rfl
theorem fu_off {g : Nat → Nat} {c v i : Nat} (h : i ≠ c) : fu g c v i = g i := if_neg h
theorem fu_comm {g : Nat → Nat} {a b u v : Nat} (h : a ≠ b) : fu (fu g a u) b v = fu (fu g b v) a u := by
  funext i
  unfold fu
  by_cases e1 : i = a
  · subst e1; rw [if_neg h, if_pos rfl, if_pos rfl]
  · by_cases e2 : i = b
    · subst e2; rw [if_pos rfl, if_neg e1, if_pos rfl]
    · rw [if_neg e2, if_neg e1, if_neg e1, if_neg e2]
/-- the sum over all choices of a source for each of a list -/
def SM (src : Nat → Nat) : List Nat → (Nat → Nat) → ((Nat → Nat) → Int) → Int
  | [], g, F => F g
  | c :: l, g, F => sN (fun p => if (src c).testBit p then SM src l (fu g c p) F else 0) 6
theorem SM_congr {src : Nat → Nat} {F G : (Nat → Nat) → Int} : ∀ l g, l.Nodup → (∀ h, (∀ c, c ∉ l → h c = g c) → (∀ c, c ∈ l → (src c).testBit (h c) = true) → F h = G h) → SM src l g F = SM src l g G := by
  intro l
  induction l with
  | nil => intro g _ h; exact h g (fun _ _ => rfl) (fun c hc => by cases hc)
  | cons c l ih =>
    intro g hn h
    have hc : c ∉ l := (List.nodup_cons.mp hn).1
    rw [SM, SM]
    refine sN_congr 6 fun p hp => ?_
    by_cases hb : (src c).testBit p = true
    · rw [if_pos hb, if_pos hb]
      refine ih (fu g c p) (List.nodup_cons.mp hn).2 fun k k1 k2 => h k (fun c2 hc2 => ?_) (fun c2 hc2 => ?_)
      · rw [k1 c2 (fun q => hc2 (List.mem_cons_of_mem _ q)), fu_off (i := c2) (c := c) (fun q => hc2 (by rw [q]; exact List.mem_cons_self))]
      · rcases List.mem_cons.mp hc2 with e | e
        · subst e; rw [k1 c2 hc, fu_at]; exact hb
        · exact k2 c2 e
    · rw [if_neg hb, if_neg hb]
theorem SM_lin {src : Nat → Nat} {a : Nat → Int} {F : Nat → (Nat → Nat) → Int} {k : Nat} : ∀ l g, SM src l g (fun h => sN (fun j => a j * F j h) k) = sN (fun j => a j * SM src l g (F j)) k := by
  intro l
  induction l with
  | nil => intro g; rfl
  | cons c l ih =>
    intro g
    rw [SM]
    have e : ∀ p, p < 6 → (if (src c).testBit p then SM src l (fu g c p) (fun h => sN (fun j => a j * F j h) k) else 0) = sN (fun j => a j * (if (src c).testBit p then SM src l (fu g c p) (F j) else 0)) k := by
      intro p _
      by_cases hb : (src c).testBit p = true
      · rw [if_pos hb, ih]; exact sN_congr k fun j _ => by rw [if_pos hb]
      · rw [if_neg hb, sN_congr (g := fun _ => 0) k (fun j _ => by rw [if_neg hb, Int.mul_zero]), sN_zero]
    rw [sN_congr 6 e, sN_swap]
    refine sN_congr k fun j _ => ?_
    rw [sN_mul]
    rfl
def sgr (cols : Nat) : Nat → Int
  | 0 => 1
  | j + 1 => if cols.testBit j then -sgr cols j else sgr cols j
def cf (cols j : Nat) : Int := if cols.testBit j then sgr cols j else 0
def ent (src : Nat → Nat) (c j : Nat) : Int := if j = c then (pcn (src c) : Int) else if (src c).testBit j then -1 else 0
def MN (src : Nat → Nat) : List Nat → Nat → Int
  | [], _ => 1
  | c :: l, cols => sN (fun j => cf cols j * ent src c j * MN src l (wo cols (2 ^ j))) 6
def eF (p c j : Nat) : Int := (if j = c then 1 else 0) - (if j = p then 1 else 0)
def MF (g : Nat → Nat) : List Nat → Nat → Int
  | [], _ => 1
  | c :: l, cols => sN (fun j => cf cols j * eF (g c) c j * MF g l (wo cols (2 ^ j))) 6
theorem ent_64 : ∀ x, x < 64 → ∀ c, c < 6 → x.testBit c = false → ∀ j, j < 6 → (if j = c then (pcn x : Int) else if x.testBit j then -1 else 0) = sN (fun p => if x.testBit p then eF p c j else 0) 6 := by decide +kernel
theorem MLin {src : Nat → Nat} (hs : ∀ c, src c < 64) (hs2 : ∀ c, (src c).testBit c = false) : ∀ l cols g, l.Nodup → (∀ c, c ∈ l → c < 6) → MN src l cols = SM src l g (fun h => MF h l cols) := by
  intro l
  induction l with
  | nil => intro cols g _ _; rfl
  | cons c l ih =>
    intro cols g hn h6
    have hc : c ∉ l := (List.nodup_cons.mp hn).1
    have hn2 := (List.nodup_cons.mp hn).2
    have h62 : ∀ c, c ∈ l → c < 6 := fun c hc => h6 c (List.mem_cons_of_mem _ hc)
    have e1 : MN src (c :: l) cols = sN (fun p => if (src c).testBit p then sN (fun j => cf cols j * eF p c j * MN src l (wo cols (2 ^ j))) 6 else 0) 6 := by
      rw [MN]
      have e : ∀ j, j < 6 → cf cols j * ent src c j * MN src l (wo cols (2 ^ j)) = sN (fun p => if (src c).testBit p then cf cols j * eF p c j * MN src l (wo cols (2 ^ j)) else 0) 6 := by
        intro j hj
        have e2 : ent src c j = sN (fun p => if (src c).testBit p then eF p c j else 0) 6 := ent_64 (src c) (hs c) c (h6 c List.mem_cons_self) (hs2 c) j hj
        rw [e2, ← sN_mul, Int.mul_comm, ← sN_mul]
        refine sN_congr 6 fun p _ => ?_
        by_cases hb : (src c).testBit p = true
        · rw [if_pos hb, if_pos hb, Int.mul_comm]
        · rw [if_neg hb, if_neg hb, Int.mul_zero, Int.mul_zero]
      rw [sN_congr 6 e, sN_swap]
      refine sN_congr 6 fun p _ => ?_
      by_cases hb : (src c).testBit p = true
      · rw [if_pos hb]; exact sN_congr 6 fun j _ => if_pos hb
      · rw [if_neg hb]; rw [sN_congr (g := fun _ => 0) 6 (fun j _ => if_neg hb), sN_zero]
    rw [e1, SM]
    refine sN_congr 6 fun p _ => ?_
    by_cases hb : (src c).testBit p = true
    · rw [if_pos hb, if_pos hb]
      rw [sN_congr (g := fun j => cf cols j * eF p c j * SM src l (fu g c p) (fun h => MF h l (wo cols (2 ^ j)))) 6 (fun j _ => by rw [← ih (wo cols (2 ^ j)) (fu g c p) hn2 h62])]
      rw [← SM_lin]
      refine SM_congr l (fu g c p) hn2 fun h k1 _ => ?_
      rw [MF, k1 c hc, fu_at]
    · rw [if_neg hb, if_neg hb]
/-- one choice: a row has two entries -/
def mqD (h : Nat → Nat) : List Nat → Nat → Int
  | [], _ => 1
  | c :: l, cols => (if cols.testBit c then sgr cols c * mqD h l (wo cols (2 ^ c)) else 0) - (if cols.testBit (h c) then sgr cols (h c) * mqD h l (wo cols (2 ^ h c)) else 0)
theorem MF_MQ {h : Nat → Nat} : ∀ l cols, (∀ c, c ∈ l → c < 6 ∧ h c < 6) → MF h l cols = mqD h l cols := by
  intro l
  induction l with
  | nil => intro cols _; rfl
  | cons c l ih =>
    intro cols hl
    obtain ⟨h1, h2⟩ := hl c List.mem_cons_self
    have hl2 : ∀ c, c ∈ l → c < 6 ∧ h c < 6 := fun c hc => hl c (List.mem_cons_of_mem _ hc)
    rw [MF, mqD]
    have e : ∀ j, j < 6 → cf cols j * eF (h c) c j * MF h l (wo cols (2 ^ j)) = (if j = c then cf cols j * MF h l (wo cols (2 ^ j)) else 0) + (-1) * (if j = h c then cf cols j * MF h l (wo cols (2 ^ j)) else 0) := by
      intro j _
      unfold eF
      have e0 : ∀ (A B : Int), cf cols j * (A - B) * MF h l (wo cols (2 ^ j)) = A * (cf cols j * MF h l (wo cols (2 ^ j))) + (-1) * (B * (cf cols j * MF h l (wo cols (2 ^ j)))) := by
        intro A B
        rw [Int.mul_sub, Int.sub_mul, Int.mul_comm (cf cols j) A, Int.mul_comm (cf cols j) B, Int.mul_assoc, Int.mul_assoc]
        omega
      rw [e0]
      congr 1
      · by_cases q : j = c
        · rw [if_pos q, if_pos q, Int.one_mul]
        · rw [if_neg q, if_neg q, Int.zero_mul]
      · congr 1
        by_cases q : j = h c
        · rw [if_pos q, if_pos q, Int.one_mul]
        · rw [if_neg q, if_neg q, Int.zero_mul]
    rw [sN_congr 6 e, sN_add, sN_mul, sN_one 6 h1, sN_one 6 h2, ih _ hl2, ih _ hl2]
    unfold cf
    by_cases b1 : cols.testBit c = true <;> by_cases b2 : cols.testBit (h c) = true <;> simp only [b1, b2, ↓reduceIte, Int.zero_mul, Bool.false_eq_true] <;> omega
