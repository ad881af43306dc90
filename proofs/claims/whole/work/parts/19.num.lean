/-! numbers and bits: everything as nI of a natural number -/
def bI (b : Bool) : Int32 := if b then nI 1 else nI 0
theorem bI_0 (b : Bool) : (bI b = 0) = (b = false) := by cases b <;> decide
theorem bI_n0 (b : Bool) : (bI b = nI 0) = (b = false) := by cases b <;> decide
theorem bI_n1 (b : Bool) : (bI b = nI 1) = (b = true) := by cases b <;> decide
theorem bI_t : bI true = nI 1 := rfl
theorem bI_f : bI false = nI 0 := rfl
theorem n0_0 : (nI 0 = 0) = True := by decide
theorem n1_0 : (nI 1 = 0) = False := by decide
theorem i_int {a : Nat} (h : a < 2147483648) : (nI a).toInt = (a : Int) := nI_toInt h
theorem i_lt {a b : Nat} (ha : a < 2147483648) (hb : b < 2147483648) : (nI a < nI b) = (a < b) := propext (nI_ltI ha hb)
theorem i_eq {a b : Nat} (ha : a < 2147483648) (hb : b < 2147483648) : (nI a = nI b) = (a = b) := propext (nI_eq ha hb)
theorem i_l0 {a : Nat} (ha : a < 2147483648) : (nI a < 0) = False := eq_false (nI_pos ha)
theorem i_e0 {a : Nat} (ha : a < 2147483648) : (nI a = 0) = (a = 0) := i_eq ha (by omega : 0 < 2147483648)
theorem i_0l {a : Nat} (ha : a < 2147483648) : (0 < nI a) = (0 < a) := i_lt (by omega : 0 < 2147483648) ha
theorem i_cl {a : Nat} (ha : a < 2147483648) : (nI a).toNatClampNeg = a := nI_clamp ha
theorem i_in {a n : Nat} (hn : n < 2147483648) (ha : a < n) : (ex_in (nI a) n = true) = True := eq_true (by unfold ex_in; exact decide_eq_true (nI_in ha hn))
theorem i_add (a b : Nat) : nI a + nI b = nI (a + b) := nI_add a b
theorem i_mul (a b : Nat) : nI a * nI b = nI (a * b) := pk_mul a b
theorem i_sub {a b : Nat} (h : b ≤ a) : nI a - nI b = nI (a - b) := pk_sub h
theorem i_div {a b : Nat} (ha : a < 2147483648) (h0 : 0 < b) (hb : b < 2147483648) : nI a / nI b = nI (a / b) := pk_div ha h0 hb
theorem i_rem {a b : Nat} (ha : a < 2147483648) (h0 : 0 < b) (hb : b < 2147483648) : nI a - nI a / nI b * nI b = nI (a % b) := pk_rem ha h0 hb
theorem i_sl : ∀ n, n < 32 → ((nI n &&& 31).toBitVec.smod 32).toNat = n := by decide +kernel
theorem i_shl {a j : Nat} (hj : j < 32) (h : a * 2 ^ j < 4294967296) : nI a <<< (nI j &&& 31) = nI (a * 2 ^ j) := pk_shlN _ j (i_sl j hj) h
theorem i_shr {a j : Nat} (ha : a < 2147483648) (hj : j < 32) : nI a >>> (nI j &&& 31) = nI (a / 2 ^ j) := pk_shrN ha _ j (i_sl j hj)
theorem i_1s {j : Nat} (hj : j < 31) : nI 1 <<< (nI j &&& 31) = nI (2 ^ j) := by
  have h : 2 ^ j < 2 ^ 31 := Nat.pow_lt_pow_right (by decide) hj
  rw [i_shl (by omega) (by omega), Nat.one_mul]
theorem i_and (a b : Nat) : nI a &&& nI b = nI (a &&& b) := by
  apply Int32.toBitVec_inj.1
  show BitVec.ofNat 32 a &&& BitVec.ofNat 32 b = BitVec.ofNat 32 (a &&& b)
  apply BitVec.eq_of_getLsbD_eq
  intro i hi
  simp [hi]
theorem i_or (a b : Nat) : nI a ||| nI b = nI (a ||| b) := by
  apply Int32.toBitVec_inj.1
  show BitVec.ofNat 32 a ||| BitVec.ofNat 32 b = BitVec.ofNat 32 (a ||| b)
  apply BitVec.eq_of_getLsbD_eq
  intro i hi
  simp [hi]
/-- a without b -/
def wo (a b : Nat) : Nat := a ^^^ (a &&& b)
theorem wo_bit (a b i : Nat) : (wo a b).testBit i = (a.testBit i && !b.testBit i) := by
  unfold wo
  rw [Nat.testBit_xor, Nat.testBit_and]
  cases a.testBit i <;> cases b.testBit i <;> rfl
theorem i_wo (a b : Nat) : nI a &&& (nI b ^^^ -1) = nI (wo a b) := by
  apply Int32.toBitVec_inj.1
  show BitVec.ofNat 32 a &&& (BitVec.ofNat 32 b ^^^ BitVec.allOnes 32) = BitVec.ofNat 32 (wo a b)
  rw [BitVec.xor_allOnes]
  apply BitVec.eq_of_getLsbD_eq
  intro i hi
  simp only [BitVec.getLsbD_and, BitVec.getLsbD_not, BitVec.getLsbD_ofNat, hi, wo_bit, decide_true, Bool.true_and]
theorem wo_le (a b : Nat) : wo a b ≤ a := by
  refine Nat.le_of_testBit ?_
  intro i h
  rw [wo_bit] at h
  exact (Bool.and_eq_true_iff.mp h).1
theorem i_bit {a j : Nat} (ha : a < 2147483648) (hj : j < 32) : (nI a >>> (nI j &&& 31)) &&& nI 1 = bI (a.testBit j) := by
  rw [i_shr ha hj, i_and, Nat.and_one_is_mod, Nat.testBit_eq_decide_div_mod_eq]
  have h : a / 2 ^ j % 2 < 2 := Nat.mod_lt _ (by decide)
  by_cases h1 : a / 2 ^ j % 2 = 1
  · rw [h1]; rfl
  · rw [show a / 2 ^ j % 2 = 0 by omega]; rfl
/-- a number from 0 on, below n -/
def isr (x : Int32) (n : Nat) : Bool := decide (0 ≤ x.toInt ∧ x.toInt < (n : Int))
theorem isr_of {x : Int32} {n : Nat} (h : isr x n = true) : ∃ j : Nat, j < n ∧ j < 2147483648 ∧ x = nI j := by
  obtain ⟨h1, h2⟩ := of_decide_eq_true h
  have h3 : ¬ x < 0 := fun q => by
    have := Int32.lt_iff_toInt_lt.mp q
    rw [Int32.toInt_zero] at this
    omega
  obtain ⟨j, hj, rfl⟩ := nI_of h3
  rw [nI_toInt hj] at h2
  exact ⟨j, by omega, hj, rfl⟩
theorem isr_nI {j n : Nat} (hj : j < 2147483648) : isr (nI j) n = decide (j < n) := by
  unfold isr
  rw [i_int hj]
  congr 1
  apply propext
  constructor <;> intro h <;> omega
theorem x_l0 (x : Int32) : (x < 0) = (x.toInt < 0) := propext (by rw [Int32.lt_iff_toInt_lt, Int32.toInt_zero])
theorem x_ln {n : Nat} (x : Int32) (hn : n < 2147483648) : (x < nI n) = (x.toInt < (n : Int)) := propext (by rw [Int32.lt_iff_toInt_lt, nI_toInt hn])
theorem x_nl {n : Nat} (x : Int32) (hn : n < 2147483648) : (nI n < x) = ((n : Int) < x.toInt) := propext (by rw [Int32.lt_iff_toInt_lt, nI_toInt hn])
theorem x_m1 (x : Int32) : (x < -1) = (x.toInt < -1) := propext (by rw [Int32.lt_iff_toInt_lt]; rfl)
/-- answers that are decided -/
theorem q_ite {c : Prop} [Decidable c] {a b : Int32} {Q : Option Value → ex_H → Prop} {h : ex_H} : (if c then Q (some (.int a)) h else Q (some (.int b)) h) = Q (some (.int (if c then a else b))) h := by split <;> rfl
theorem q_01 {c : Prop} [Decidable c] : (if c then nI 0 else nI 1) = bI (!decide c) := by by_cases h : c <;> simp [h, bI]
theorem q_10 {c : Prop} [Decidable c] : (if c then nI 1 else nI 0) = bI (decide c) := by by_cases h : c <;> simp [h, bI]
theorem q_0b {c : Prop} [Decidable c] {b : Bool} : (if c then nI 0 else bI b) = bI (!decide c && b) := by by_cases h : c <;> simp [h, bI]
theorem q_b0 {c : Prop} [Decidable c] {b : Bool} : (if c then bI b else nI 0) = bI (decide c && b) := by by_cases h : c <;> simp [h, bI]
theorem q_1b {c : Prop} [Decidable c] {b : Bool} : (if c then nI 1 else bI b) = bI (decide c || b) := by by_cases h : c <;> simp [h, bI]
theorem q_bf (b : Bool) : (!decide (b = false)) = b := by cases b <;> rfl
/-- how many bits -/
def pcn (a : Nat) : Nat := (List.range 12).countP (fun i => a.testBit i)
