/-! one choice of sources: the determinant is 1 if all come from the first mouth, else 0 (tried at all) -/
def it (g : Nat → Nat) : Nat → Nat → Nat
  | 0, c => c
  | j + 1, c => if c = 9 then 9 else it g j (g c)
def acy (wl : List Nat) (g : Nat → Nat) : Bool := wl.all (fun c => it g wl.length c == 9)
def wlK (K : Nat) : List Nat := ls (fun c => K.testBit c) 6
def rlK (K r : Nat) : List Nat := (wlK K).filter (fun c => c != r)
def chk (K r : Nat) : List Nat → (Nat → Nat) → Bool
  | [], h => mqD h (rlK K r) (wo K (2 ^ r)) == (if acy (wlK K) h then 1 else 0)
  | c :: l, h => (List.range 6).all (fun p => !(K.testBit p && p != c) || chk K r l (fu h c p))
theorem chk_ok {K r : Nat} : ∀ l h0, chk K r l h0 = true → ∀ h, (∀ c, c ∉ l → h c = h0 c) → (∀ c, c ∈ l → h c < 6 ∧ K.testBit (h c) = true ∧ h c ≠ c) → mqD h (rlK K r) (wo K (2 ^ r)) = (if acy (wlK K) h then 1 else 0) := by
  intro l
  induction l with
  | nil =>
    intro h0 hc h h1 _
    rw [show h = h0 from funext fun c => h1 c (by simp)]
    rw [chk] at hc
    exact eq_of_beq hc
  | cons c l ih =>
    intro h0 hc h h1 h2
    obtain ⟨a1, a2, a3⟩ := h2 c List.mem_cons_self
    rw [chk, List.all_eq_true] at hc
    have hp := hc (h c) (List.mem_range.mpr a1)
    rw [a2, Bool.true_and, bne_iff_ne.mpr a3] at hp
    refine ih (fu h0 c (h c)) hp h (fun c2 hc2 => ?_) (fun c2 hc2 => h2 c2 (List.mem_cons_of_mem _ hc2))
    by_cases e : c2 = c
    · subst e; rw [fu_at]
    · rw [fu_off e]
      exact h1 c2 (fun q => by rcases List.mem_cons.mp q with q | q; exact e q; exact hc2 q)
def chA (K : Nat) : Bool := (List.range 6).all (fun r => !K.testBit r || chk K r (rlK K r) (fun _ => 9))
theorem chA_0 : (List.range 63).all chA = true := by decide +kernel
