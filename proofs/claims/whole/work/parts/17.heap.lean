/-! the heap behind the constructors: its shape is fixed, M cell place is what stands in it (written by gen2.py) -/
def hp_q : Nat → Option Nat := (va_up (va_up (va_up (va_up (fun _ => none) 0 (some 45)) 1 (some 47)) 2 (some 49)) 3 (some 51))
def HP (lx : Nat) (xs : Nat → Int32) (M : Nat → Nat → Int32) : ex_H := [.inl (0, lx, xs), .inr (.inr (6, [.ref 2, .ref 15, .ref 28, .ref 35, .ref 42, .ref 44, .int (M 1 6)])), .inr (.inr (3, [.int (M 2 0), .int (M 2 1), .int (M 2 2), .ref 3, .ref 4, .ref 5, .ref 6, .ref 7, .ref 8, .ref 11, .ref 12, .ref 13, .ref 14])), .inl (0, 6, M 3), .inl (0, 24, M 4), .inl (0, 6, M 5), .inl (0, 6, M 6), .inl (0, 4, M 7), .inr (.inr (0, [.int (M 8 0), .int (M 8 1), .ref 9, .ref 10])), .inl (0, 24, M 9), .inl (2, 24, M 10), .inl (0, 6, M 11), .inl (0, 6, M 12), .inl (0, 144, M 13), .inl (0, 3, M 14), .inr (.inr (3, [.int (M 15 0), .int (M 15 1), .int (M 15 2), .ref 16, .ref 17, .ref 18, .ref 19, .ref 20, .ref 21, .ref 24, .ref 25, .ref 26, .ref 27])), .inl (0, 6, M 16), .inl (0, 24, M 17), .inl (0, 6, M 18), .inl (0, 6, M 19), .inl (0, 4, M 20), .inr (.inr (0, [.int (M 21 0), .int (M 21 1), .ref 22, .ref 23])), .inl (0, 24, M 22), .inl (2, 24, M 23), .inl (0, 6, M 24), .inl (0, 6, M 25), .inl (0, 144, M 26), .inl (0, 3, M 27), .inr (.inr (1, [.ref 29, .ref 30, .ref 31, .ref 34, .int (M 28 4), .int (M 28 5)])), .inl (0, 6, M 29), .inl (0, 6, M 30), .inr (.inr (0, [.int (M 31 0), .int (M 31 1), .ref 32, .ref 33])), .inl (0, 24, M 32), .inl (2, 24, M 33), .inl (1, 160, M 34), .inr (.inr (4, [.ref 36, .ref 37, .ref 38, .ref 39, .ref 40, .ref 41, .int (M 35 6), .int (M 35 7), .int (M 35 8)])), .inl (0, 4, M 36), .inl (0, 6, M 37), .inl (0, 6, M 38), .inl (0, 468, M 39), .inl (0, 78, M 40), .inl (1, 4096, M 41), .inr (.inr (2, [.ref 43, .int (M 42 1), .int (M 42 2), .int (M 42 3)])), .inl (0, 6, M 43), .inr (.inl (4, hp_q)), .inr (.inr (5, [.int (M 45 0), .int (M 45 1), .ref 46])), .inl (0, 24, M 46), .inr (.inr (5, [.int (M 47 0), .int (M 47 1), .ref 48])), .inl (0, 24, M 48), .inr (.inr (5, [.int (M 49 0), .int (M 49 1), .ref 50])), .inl (0, 24, M 50), .inr (.inr (5, [.int (M 51 0), .int (M 51 1), .ref 52])), .inl (0, 24, M 52), .inr (.inr (7, [.ref 54, .ref 55, .ref 56, .ref 57, .int (M 53 4), .ref 58, .int (M 53 6), .int (M 53 7), .int (M 53 8), .ref 59, .int (M 53 10), .int (M 53 11), .int (M 53 12), .ref 60, .ref 61, .ref 62, .ref 63, .int (M 53 17), .ref 64, .ref 65, .ref 66, .ref 67, .ref 68, .ref 69, .int (M 53 24), .ref 70, .int (M 53 26), .int (M 53 27), .int (M 53 28), .ref 71, .ref 72, .ref 73, .ref 74, .ref 75])), .inl (0, 6, M 54), .inl (0, 6, M 55), .inl (0, 24, M 56), .inl (0, 4, M 57), .inl (0, 96, M 58), .inl (0, 160, M 59), .inl (0, 96, M 60), .inl (2, 4096, M 61), .inl (2, 4096, M 62), .inl (0, 4, M 63), .inl (0, 4096, M 64), .inl (0, 4096, M 65), .inl (0, 24, M 66), .inl (0, 6, M 67), .inl (0, 6, M 68), .inl (0, 6, M 69), .inl (0, 6, M 70), .inl (0, 140, M 71), .inl (0, 4, M 72), .inl (0, 4, M 73), .inl (0, 96, M 74), .inl (0, 24, M 75)]
def upr (M : Nat → Nat → Int32) (c : Nat) (f : Nat → Int32) : Nat → Nat → Int32 := fun c2 => if c2 = c then f else M c2
def up (M : Nat → Nat → Int32) (c j : Nat) (x : Int32) : Nat → Nat → Int32 := upr M c (upd (M c) j x)
theorem upr_eq (M : Nat → Nat → Int32) (c : Nat) (f : Nat → Int32) : upr M c f c = f := if_pos rfl
theorem upr_ne (M : Nat → Nat → Int32) {c c2 : Nat} (f : Nat → Int32) (h : c2 ≠ c) : upr M c f c2 = M c2 := if_neg h
theorem up_eq (M : Nat → Nat → Int32) (c j : Nat) (x : Int32) : up M c j x c = upd (M c) j x := if_pos rfl
theorem up_ne (M : Nat → Nat → Int32) {c c2 : Nat} (j : Nat) (x : Int32) (h : c2 ≠ c) : up M c j x c2 = M c2 := if_neg h
section HPS
variable {lx : Nat} {xs : Nat → Int32} {M : Nat → Nat → Int32} {x : Int32} {f : Nat → Int32}
theorem hp_1 : (HP lx xs M)[1]? = some (.inr (.inr (6, [.ref 2, .ref 15, .ref 28, .ref 35, .ref 42, .ref 44, .int (M 1 6)]))) := rfl
theorem hf_1_6 : (HP lx xs M).set 1 (.inr (.inr (6, [.ref 2, .ref 15, .ref 28, .ref 35, .ref 42, .ref 44, .int x]))) = HP lx xs (up M 1 6 x) := rfl
theorem hp_2 : (HP lx xs M)[2]? = some (.inr (.inr (3, [.int (M 2 0), .int (M 2 1), .int (M 2 2), .ref 3, .ref 4, .ref 5, .ref 6, .ref 7, .ref 8, .ref 11, .ref 12, .ref 13, .ref 14]))) := rfl
theorem hf_2_0 : (HP lx xs M).set 2 (.inr (.inr (3, [.int x, .int (M 2 1), .int (M 2 2), .ref 3, .ref 4, .ref 5, .ref 6, .ref 7, .ref 8, .ref 11, .ref 12, .ref 13, .ref 14]))) = HP lx xs (up M 2 0 x) := rfl
theorem hf_2_1 : (HP lx xs M).set 2 (.inr (.inr (3, [.int (M 2 0), .int x, .int (M 2 2), .ref 3, .ref 4, .ref 5, .ref 6, .ref 7, .ref 8, .ref 11, .ref 12, .ref 13, .ref 14]))) = HP lx xs (up M 2 1 x) := rfl
theorem hf_2_2 : (HP lx xs M).set 2 (.inr (.inr (3, [.int (M 2 0), .int (M 2 1), .int x, .ref 3, .ref 4, .ref 5, .ref 6, .ref 7, .ref 8, .ref 11, .ref 12, .ref 13, .ref 14]))) = HP lx xs (up M 2 2 x) := rfl
theorem hp_3 : (HP lx xs M)[3]? = some (.inl (0, 6, M 3)) := rfl
theorem hs_3 : (HP lx xs M).set 3 (.inl (0, 6, f)) = HP lx xs (upr M 3 f) := rfl
theorem hp_4 : (HP lx xs M)[4]? = some (.inl (0, 24, M 4)) := rfl
theorem hs_4 : (HP lx xs M).set 4 (.inl (0, 24, f)) = HP lx xs (upr M 4 f) := rfl
theorem hp_5 : (HP lx xs M)[5]? = some (.inl (0, 6, M 5)) := rfl
theorem hs_5 : (HP lx xs M).set 5 (.inl (0, 6, f)) = HP lx xs (upr M 5 f) := rfl
theorem hp_6 : (HP lx xs M)[6]? = some (.inl (0, 6, M 6)) := rfl
theorem hs_6 : (HP lx xs M).set 6 (.inl (0, 6, f)) = HP lx xs (upr M 6 f) := rfl
theorem hp_7 : (HP lx xs M)[7]? = some (.inl (0, 4, M 7)) := rfl
theorem hs_7 : (HP lx xs M).set 7 (.inl (0, 4, f)) = HP lx xs (upr M 7 f) := rfl
theorem hp_8 : (HP lx xs M)[8]? = some (.inr (.inr (0, [.int (M 8 0), .int (M 8 1), .ref 9, .ref 10]))) := rfl
theorem hf_8_0 : (HP lx xs M).set 8 (.inr (.inr (0, [.int x, .int (M 8 1), .ref 9, .ref 10]))) = HP lx xs (up M 8 0 x) := rfl
theorem hf_8_1 : (HP lx xs M).set 8 (.inr (.inr (0, [.int (M 8 0), .int x, .ref 9, .ref 10]))) = HP lx xs (up M 8 1 x) := rfl
theorem hp_9 : (HP lx xs M)[9]? = some (.inl (0, 24, M 9)) := rfl
theorem hs_9 : (HP lx xs M).set 9 (.inl (0, 24, f)) = HP lx xs (upr M 9 f) := rfl
theorem hp_10 : (HP lx xs M)[10]? = some (.inl (2, 24, M 10)) := rfl
theorem hs_10 : (HP lx xs M).set 10 (.inl (2, 24, f)) = HP lx xs (upr M 10 f) := rfl
theorem hp_11 : (HP lx xs M)[11]? = some (.inl (0, 6, M 11)) := rfl
theorem hs_11 : (HP lx xs M).set 11 (.inl (0, 6, f)) = HP lx xs (upr M 11 f) := rfl
theorem hp_12 : (HP lx xs M)[12]? = some (.inl (0, 6, M 12)) := rfl
theorem hs_12 : (HP lx xs M).set 12 (.inl (0, 6, f)) = HP lx xs (upr M 12 f) := rfl
theorem hp_13 : (HP lx xs M)[13]? = some (.inl (0, 144, M 13)) := rfl
theorem hs_13 : (HP lx xs M).set 13 (.inl (0, 144, f)) = HP lx xs (upr M 13 f) := rfl
theorem hp_14 : (HP lx xs M)[14]? = some (.inl (0, 3, M 14)) := rfl
theorem hs_14 : (HP lx xs M).set 14 (.inl (0, 3, f)) = HP lx xs (upr M 14 f) := rfl
theorem hp_15 : (HP lx xs M)[15]? = some (.inr (.inr (3, [.int (M 15 0), .int (M 15 1), .int (M 15 2), .ref 16, .ref 17, .ref 18, .ref 19, .ref 20, .ref 21, .ref 24, .ref 25, .ref 26, .ref 27]))) := rfl
theorem hf_15_0 : (HP lx xs M).set 15 (.inr (.inr (3, [.int x, .int (M 15 1), .int (M 15 2), .ref 16, .ref 17, .ref 18, .ref 19, .ref 20, .ref 21, .ref 24, .ref 25, .ref 26, .ref 27]))) = HP lx xs (up M 15 0 x) := rfl
theorem hf_15_1 : (HP lx xs M).set 15 (.inr (.inr (3, [.int (M 15 0), .int x, .int (M 15 2), .ref 16, .ref 17, .ref 18, .ref 19, .ref 20, .ref 21, .ref 24, .ref 25, .ref 26, .ref 27]))) = HP lx xs (up M 15 1 x) := rfl
theorem hf_15_2 : (HP lx xs M).set 15 (.inr (.inr (3, [.int (M 15 0), .int (M 15 1), .int x, .ref 16, .ref 17, .ref 18, .ref 19, .ref 20, .ref 21, .ref 24, .ref 25, .ref 26, .ref 27]))) = HP lx xs (up M 15 2 x) := rfl
theorem hp_16 : (HP lx xs M)[16]? = some (.inl (0, 6, M 16)) := rfl
theorem hs_16 : (HP lx xs M).set 16 (.inl (0, 6, f)) = HP lx xs (upr M 16 f) := rfl
theorem hp_17 : (HP lx xs M)[17]? = some (.inl (0, 24, M 17)) := rfl
theorem hs_17 : (HP lx xs M).set 17 (.inl (0, 24, f)) = HP lx xs (upr M 17 f) := rfl
theorem hp_18 : (HP lx xs M)[18]? = some (.inl (0, 6, M 18)) := rfl
theorem hs_18 : (HP lx xs M).set 18 (.inl (0, 6, f)) = HP lx xs (upr M 18 f) := rfl
theorem hp_19 : (HP lx xs M)[19]? = some (.inl (0, 6, M 19)) := rfl
theorem hs_19 : (HP lx xs M).set 19 (.inl (0, 6, f)) = HP lx xs (upr M 19 f) := rfl
theorem hp_20 : (HP lx xs M)[20]? = some (.inl (0, 4, M 20)) := rfl
theorem hs_20 : (HP lx xs M).set 20 (.inl (0, 4, f)) = HP lx xs (upr M 20 f) := rfl
theorem hp_21 : (HP lx xs M)[21]? = some (.inr (.inr (0, [.int (M 21 0), .int (M 21 1), .ref 22, .ref 23]))) := rfl
theorem hf_21_0 : (HP lx xs M).set 21 (.inr (.inr (0, [.int x, .int (M 21 1), .ref 22, .ref 23]))) = HP lx xs (up M 21 0 x) := rfl
theorem hf_21_1 : (HP lx xs M).set 21 (.inr (.inr (0, [.int (M 21 0), .int x, .ref 22, .ref 23]))) = HP lx xs (up M 21 1 x) := rfl
theorem hp_22 : (HP lx xs M)[22]? = some (.inl (0, 24, M 22)) := rfl
theorem hs_22 : (HP lx xs M).set 22 (.inl (0, 24, f)) = HP lx xs (upr M 22 f) := rfl
theorem hp_23 : (HP lx xs M)[23]? = some (.inl (2, 24, M 23)) := rfl
theorem hs_23 : (HP lx xs M).set 23 (.inl (2, 24, f)) = HP lx xs (upr M 23 f) := rfl
theorem hp_24 : (HP lx xs M)[24]? = some (.inl (0, 6, M 24)) := rfl
theorem hs_24 : (HP lx xs M).set 24 (.inl (0, 6, f)) = HP lx xs (upr M 24 f) := rfl
theorem hp_25 : (HP lx xs M)[25]? = some (.inl (0, 6, M 25)) := rfl
theorem hs_25 : (HP lx xs M).set 25 (.inl (0, 6, f)) = HP lx xs (upr M 25 f) := rfl
theorem hp_26 : (HP lx xs M)[26]? = some (.inl (0, 144, M 26)) := rfl
theorem hs_26 : (HP lx xs M).set 26 (.inl (0, 144, f)) = HP lx xs (upr M 26 f) := rfl
theorem hp_27 : (HP lx xs M)[27]? = some (.inl (0, 3, M 27)) := rfl
theorem hs_27 : (HP lx xs M).set 27 (.inl (0, 3, f)) = HP lx xs (upr M 27 f) := rfl
theorem hp_28 : (HP lx xs M)[28]? = some (.inr (.inr (1, [.ref 29, .ref 30, .ref 31, .ref 34, .int (M 28 4), .int (M 28 5)]))) := rfl
theorem hf_28_4 : (HP lx xs M).set 28 (.inr (.inr (1, [.ref 29, .ref 30, .ref 31, .ref 34, .int x, .int (M 28 5)]))) = HP lx xs (up M 28 4 x) := rfl
theorem hf_28_5 : (HP lx xs M).set 28 (.inr (.inr (1, [.ref 29, .ref 30, .ref 31, .ref 34, .int (M 28 4), .int x]))) = HP lx xs (up M 28 5 x) := rfl
theorem hp_29 : (HP lx xs M)[29]? = some (.inl (0, 6, M 29)) := rfl
theorem hs_29 : (HP lx xs M).set 29 (.inl (0, 6, f)) = HP lx xs (upr M 29 f) := rfl
theorem hp_30 : (HP lx xs M)[30]? = some (.inl (0, 6, M 30)) := rfl
theorem hs_30 : (HP lx xs M).set 30 (.inl (0, 6, f)) = HP lx xs (upr M 30 f) := rfl
theorem hp_31 : (HP lx xs M)[31]? = some (.inr (.inr (0, [.int (M 31 0), .int (M 31 1), .ref 32, .ref 33]))) := rfl
theorem hf_31_0 : (HP lx xs M).set 31 (.inr (.inr (0, [.int x, .int (M 31 1), .ref 32, .ref 33]))) = HP lx xs (up M 31 0 x) := rfl
theorem hf_31_1 : (HP lx xs M).set 31 (.inr (.inr (0, [.int (M 31 0), .int x, .ref 32, .ref 33]))) = HP lx xs (up M 31 1 x) := rfl
theorem hp_32 : (HP lx xs M)[32]? = some (.inl (0, 24, M 32)) := rfl
theorem hs_32 : (HP lx xs M).set 32 (.inl (0, 24, f)) = HP lx xs (upr M 32 f) := rfl
theorem hp_33 : (HP lx xs M)[33]? = some (.inl (2, 24, M 33)) := rfl
theorem hs_33 : (HP lx xs M).set 33 (.inl (2, 24, f)) = HP lx xs (upr M 33 f) := rfl
theorem hp_34 : (HP lx xs M)[34]? = some (.inl (1, 160, M 34)) := rfl
theorem hs_34 : (HP lx xs M).set 34 (.inl (1, 160, f)) = HP lx xs (upr M 34 f) := rfl
theorem hp_35 : (HP lx xs M)[35]? = some (.inr (.inr (4, [.ref 36, .ref 37, .ref 38, .ref 39, .ref 40, .ref 41, .int (M 35 6), .int (M 35 7), .int (M 35 8)]))) := rfl
theorem hf_35_6 : (HP lx xs M).set 35 (.inr (.inr (4, [.ref 36, .ref 37, .ref 38, .ref 39, .ref 40, .ref 41, .int x, .int (M 35 7), .int (M 35 8)]))) = HP lx xs (up M 35 6 x) := rfl
theorem hf_35_7 : (HP lx xs M).set 35 (.inr (.inr (4, [.ref 36, .ref 37, .ref 38, .ref 39, .ref 40, .ref 41, .int (M 35 6), .int x, .int (M 35 8)]))) = HP lx xs (up M 35 7 x) := rfl
theorem hf_35_8 : (HP lx xs M).set 35 (.inr (.inr (4, [.ref 36, .ref 37, .ref 38, .ref 39, .ref 40, .ref 41, .int (M 35 6), .int (M 35 7), .int x]))) = HP lx xs (up M 35 8 x) := rfl
theorem hp_36 : (HP lx xs M)[36]? = some (.inl (0, 4, M 36)) := rfl
theorem hs_36 : (HP lx xs M).set 36 (.inl (0, 4, f)) = HP lx xs (upr M 36 f) := rfl
theorem hp_37 : (HP lx xs M)[37]? = some (.inl (0, 6, M 37)) := rfl
theorem hs_37 : (HP lx xs M).set 37 (.inl (0, 6, f)) = HP lx xs (upr M 37 f) := rfl
theorem hp_38 : (HP lx xs M)[38]? = some (.inl (0, 6, M 38)) := rfl
theorem hs_38 : (HP lx xs M).set 38 (.inl (0, 6, f)) = HP lx xs (upr M 38 f) := rfl
theorem hp_39 : (HP lx xs M)[39]? = some (.inl (0, 468, M 39)) := rfl
theorem hs_39 : (HP lx xs M).set 39 (.inl (0, 468, f)) = HP lx xs (upr M 39 f) := rfl
theorem hp_40 : (HP lx xs M)[40]? = some (.inl (0, 78, M 40)) := rfl
theorem hs_40 : (HP lx xs M).set 40 (.inl (0, 78, f)) = HP lx xs (upr M 40 f) := rfl
theorem hp_41 : (HP lx xs M)[41]? = some (.inl (1, 4096, M 41)) := rfl
theorem hs_41 : (HP lx xs M).set 41 (.inl (1, 4096, f)) = HP lx xs (upr M 41 f) := rfl
theorem hp_42 : (HP lx xs M)[42]? = some (.inr (.inr (2, [.ref 43, .int (M 42 1), .int (M 42 2), .int (M 42 3)]))) := rfl
theorem hf_42_1 : (HP lx xs M).set 42 (.inr (.inr (2, [.ref 43, .int x, .int (M 42 2), .int (M 42 3)]))) = HP lx xs (up M 42 1 x) := rfl
theorem hf_42_2 : (HP lx xs M).set 42 (.inr (.inr (2, [.ref 43, .int (M 42 1), .int x, .int (M 42 3)]))) = HP lx xs (up M 42 2 x) := rfl
theorem hf_42_3 : (HP lx xs M).set 42 (.inr (.inr (2, [.ref 43, .int (M 42 1), .int (M 42 2), .int x]))) = HP lx xs (up M 42 3 x) := rfl
theorem hp_43 : (HP lx xs M)[43]? = some (.inl (0, 6, M 43)) := rfl
theorem hs_43 : (HP lx xs M).set 43 (.inl (0, 6, f)) = HP lx xs (upr M 43 f) := rfl
theorem hp_44 : (HP lx xs M)[44]? = some (.inr (.inl (4, hp_q))) := rfl
theorem hp_45 : (HP lx xs M)[45]? = some (.inr (.inr (5, [.int (M 45 0), .int (M 45 1), .ref 46]))) := rfl
theorem hf_45_0 : (HP lx xs M).set 45 (.inr (.inr (5, [.int x, .int (M 45 1), .ref 46]))) = HP lx xs (up M 45 0 x) := rfl
theorem hf_45_1 : (HP lx xs M).set 45 (.inr (.inr (5, [.int (M 45 0), .int x, .ref 46]))) = HP lx xs (up M 45 1 x) := rfl
theorem hp_46 : (HP lx xs M)[46]? = some (.inl (0, 24, M 46)) := rfl
theorem hs_46 : (HP lx xs M).set 46 (.inl (0, 24, f)) = HP lx xs (upr M 46 f) := rfl
theorem hp_47 : (HP lx xs M)[47]? = some (.inr (.inr (5, [.int (M 47 0), .int (M 47 1), .ref 48]))) := rfl
theorem hf_47_0 : (HP lx xs M).set 47 (.inr (.inr (5, [.int x, .int (M 47 1), .ref 48]))) = HP lx xs (up M 47 0 x) := rfl
theorem hf_47_1 : (HP lx xs M).set 47 (.inr (.inr (5, [.int (M 47 0), .int x, .ref 48]))) = HP lx xs (up M 47 1 x) := rfl
theorem hp_48 : (HP lx xs M)[48]? = some (.inl (0, 24, M 48)) := rfl
theorem hs_48 : (HP lx xs M).set 48 (.inl (0, 24, f)) = HP lx xs (upr M 48 f) := rfl
theorem hp_49 : (HP lx xs M)[49]? = some (.inr (.inr (5, [.int (M 49 0), .int (M 49 1), .ref 50]))) := rfl
theorem hf_49_0 : (HP lx xs M).set 49 (.inr (.inr (5, [.int x, .int (M 49 1), .ref 50]))) = HP lx xs (up M 49 0 x) := rfl
theorem hf_49_1 : (HP lx xs M).set 49 (.inr (.inr (5, [.int (M 49 0), .int x, .ref 50]))) = HP lx xs (up M 49 1 x) := rfl
theorem hp_50 : (HP lx xs M)[50]? = some (.inl (0, 24, M 50)) := rfl
theorem hs_50 : (HP lx xs M).set 50 (.inl (0, 24, f)) = HP lx xs (upr M 50 f) := rfl
theorem hp_51 : (HP lx xs M)[51]? = some (.inr (.inr (5, [.int (M 51 0), .int (M 51 1), .ref 52]))) := rfl
theorem hf_51_0 : (HP lx xs M).set 51 (.inr (.inr (5, [.int x, .int (M 51 1), .ref 52]))) = HP lx xs (up M 51 0 x) := rfl
theorem hf_51_1 : (HP lx xs M).set 51 (.inr (.inr (5, [.int (M 51 0), .int x, .ref 52]))) = HP lx xs (up M 51 1 x) := rfl
theorem hp_52 : (HP lx xs M)[52]? = some (.inl (0, 24, M 52)) := rfl
theorem hs_52 : (HP lx xs M).set 52 (.inl (0, 24, f)) = HP lx xs (upr M 52 f) := rfl
theorem hp_53 : (HP lx xs M)[53]? = some (.inr (.inr (7, [.ref 54, .ref 55, .ref 56, .ref 57, .int (M 53 4), .ref 58, .int (M 53 6), .int (M 53 7), .int (M 53 8), .ref 59, .int (M 53 10), .int (M 53 11), .int (M 53 12), .ref 60, .ref 61, .ref 62, .ref 63, .int (M 53 17), .ref 64, .ref 65, .ref 66, .ref 67, .ref 68, .ref 69, .int (M 53 24), .ref 70, .int (M 53 26), .int (M 53 27), .int (M 53 28), .ref 71, .ref 72, .ref 73, .ref 74, .ref 75]))) := rfl
theorem hf_53_4 : (HP lx xs M).set 53 (.inr (.inr (7, [.ref 54, .ref 55, .ref 56, .ref 57, .int x, .ref 58, .int (M 53 6), .int (M 53 7), .int (M 53 8), .ref 59, .int (M 53 10), .int (M 53 11), .int (M 53 12), .ref 60, .ref 61, .ref 62, .ref 63, .int (M 53 17), .ref 64, .ref 65, .ref 66, .ref 67, .ref 68, .ref 69, .int (M 53 24), .ref 70, .int (M 53 26), .int (M 53 27), .int (M 53 28), .ref 71, .ref 72, .ref 73, .ref 74, .ref 75]))) = HP lx xs (up M 53 4 x) := rfl
theorem hf_53_6 : (HP lx xs M).set 53 (.inr (.inr (7, [.ref 54, .ref 55, .ref 56, .ref 57, .int (M 53 4), .ref 58, .int x, .int (M 53 7), .int (M 53 8), .ref 59, .int (M 53 10), .int (M 53 11), .int (M 53 12), .ref 60, .ref 61, .ref 62, .ref 63, .int (M 53 17), .ref 64, .ref 65, .ref 66, .ref 67, .ref 68, .ref 69, .int (M 53 24), .ref 70, .int (M 53 26), .int (M 53 27), .int (M 53 28), .ref 71, .ref 72, .ref 73, .ref 74, .ref 75]))) = HP lx xs (up M 53 6 x) := rfl
theorem hf_53_7 : (HP lx xs M).set 53 (.inr (.inr (7, [.ref 54, .ref 55, .ref 56, .ref 57, .int (M 53 4), .ref 58, .int (M 53 6), .int x, .int (M 53 8), .ref 59, .int (M 53 10), .int (M 53 11), .int (M 53 12), .ref 60, .ref 61, .ref 62, .ref 63, .int (M 53 17), .ref 64, .ref 65, .ref 66, .ref 67, .ref 68, .ref 69, .int (M 53 24), .ref 70, .int (M 53 26), .int (M 53 27), .int (M 53 28), .ref 71, .ref 72, .ref 73, .ref 74, .ref 75]))) = HP lx xs (up M 53 7 x) := rfl
theorem hf_53_8 : (HP lx xs M).set 53 (.inr (.inr (7, [.ref 54, .ref 55, .ref 56, .ref 57, .int (M 53 4), .ref 58, .int (M 53 6), .int (M 53 7), .int x, .ref 59, .int (M 53 10), .int (M 53 11), .int (M 53 12), .ref 60, .ref 61, .ref 62, .ref 63, .int (M 53 17), .ref 64, .ref 65, .ref 66, .ref 67, .ref 68, .ref 69, .int (M 53 24), .ref 70, .int (M 53 26), .int (M 53 27), .int (M 53 28), .ref 71, .ref 72, .ref 73, .ref 74, .ref 75]))) = HP lx xs (up M 53 8 x) := rfl
theorem hf_53_10 : (HP lx xs M).set 53 (.inr (.inr (7, [.ref 54, .ref 55, .ref 56, .ref 57, .int (M 53 4), .ref 58, .int (M 53 6), .int (M 53 7), .int (M 53 8), .ref 59, .int x, .int (M 53 11), .int (M 53 12), .ref 60, .ref 61, .ref 62, .ref 63, .int (M 53 17), .ref 64, .ref 65, .ref 66, .ref 67, .ref 68, .ref 69, .int (M 53 24), .ref 70, .int (M 53 26), .int (M 53 27), .int (M 53 28), .ref 71, .ref 72, .ref 73, .ref 74, .ref 75]))) = HP lx xs (up M 53 10 x) := rfl
theorem hf_53_11 : (HP lx xs M).set 53 (.inr (.inr (7, [.ref 54, .ref 55, .ref 56, .ref 57, .int (M 53 4), .ref 58, .int (M 53 6), .int (M 53 7), .int (M 53 8), .ref 59, .int (M 53 10), .int x, .int (M 53 12), .ref 60, .ref 61, .ref 62, .ref 63, .int (M 53 17), .ref 64, .ref 65, .ref 66, .ref 67, .ref 68, .ref 69, .int (M 53 24), .ref 70, .int (M 53 26), .int (M 53 27), .int (M 53 28), .ref 71, .ref 72, .ref 73, .ref 74, .ref 75]))) = HP lx xs (up M 53 11 x) := rfl
theorem hf_53_12 : (HP lx xs M).set 53 (.inr (.inr (7, [.ref 54, .ref 55, .ref 56, .ref 57, .int (M 53 4), .ref 58, .int (M 53 6), .int (M 53 7), .int (M 53 8), .ref 59, .int (M 53 10), .int (M 53 11), .int x, .ref 60, .ref 61, .ref 62, .ref 63, .int (M 53 17), .ref 64, .ref 65, .ref 66, .ref 67, .ref 68, .ref 69, .int (M 53 24), .ref 70, .int (M 53 26), .int (M 53 27), .int (M 53 28), .ref 71, .ref 72, .ref 73, .ref 74, .ref 75]))) = HP lx xs (up M 53 12 x) := rfl
theorem hf_53_17 : (HP lx xs M).set 53 (.inr (.inr (7, [.ref 54, .ref 55, .ref 56, .ref 57, .int (M 53 4), .ref 58, .int (M 53 6), .int (M 53 7), .int (M 53 8), .ref 59, .int (M 53 10), .int (M 53 11), .int (M 53 12), .ref 60, .ref 61, .ref 62, .ref 63, .int x, .ref 64, .ref 65, .ref 66, .ref 67, .ref 68, .ref 69, .int (M 53 24), .ref 70, .int (M 53 26), .int (M 53 27), .int (M 53 28), .ref 71, .ref 72, .ref 73, .ref 74, .ref 75]))) = HP lx xs (up M 53 17 x) := rfl
theorem hf_53_24 : (HP lx xs M).set 53 (.inr (.inr (7, [.ref 54, .ref 55, .ref 56, .ref 57, .int (M 53 4), .ref 58, .int (M 53 6), .int (M 53 7), .int (M 53 8), .ref 59, .int (M 53 10), .int (M 53 11), .int (M 53 12), .ref 60, .ref 61, .ref 62, .ref 63, .int (M 53 17), .ref 64, .ref 65, .ref 66, .ref 67, .ref 68, .ref 69, .int x, .ref 70, .int (M 53 26), .int (M 53 27), .int (M 53 28), .ref 71, .ref 72, .ref 73, .ref 74, .ref 75]))) = HP lx xs (up M 53 24 x) := rfl
theorem hf_53_26 : (HP lx xs M).set 53 (.inr (.inr (7, [.ref 54, .ref 55, .ref 56, .ref 57, .int (M 53 4), .ref 58, .int (M 53 6), .int (M 53 7), .int (M 53 8), .ref 59, .int (M 53 10), .int (M 53 11), .int (M 53 12), .ref 60, .ref 61, .ref 62, .ref 63, .int (M 53 17), .ref 64, .ref 65, .ref 66, .ref 67, .ref 68, .ref 69, .int (M 53 24), .ref 70, .int x, .int (M 53 27), .int (M 53 28), .ref 71, .ref 72, .ref 73, .ref 74, .ref 75]))) = HP lx xs (up M 53 26 x) := rfl
theorem hf_53_27 : (HP lx xs M).set 53 (.inr (.inr (7, [.ref 54, .ref 55, .ref 56, .ref 57, .int (M 53 4), .ref 58, .int (M 53 6), .int (M 53 7), .int (M 53 8), .ref 59, .int (M 53 10), .int (M 53 11), .int (M 53 12), .ref 60, .ref 61, .ref 62, .ref 63, .int (M 53 17), .ref 64, .ref 65, .ref 66, .ref 67, .ref 68, .ref 69, .int (M 53 24), .ref 70, .int (M 53 26), .int x, .int (M 53 28), .ref 71, .ref 72, .ref 73, .ref 74, .ref 75]))) = HP lx xs (up M 53 27 x) := rfl
theorem hf_53_28 : (HP lx xs M).set 53 (.inr (.inr (7, [.ref 54, .ref 55, .ref 56, .ref 57, .int (M 53 4), .ref 58, .int (M 53 6), .int (M 53 7), .int (M 53 8), .ref 59, .int (M 53 10), .int (M 53 11), .int (M 53 12), .ref 60, .ref 61, .ref 62, .ref 63, .int (M 53 17), .ref 64, .ref 65, .ref 66, .ref 67, .ref 68, .ref 69, .int (M 53 24), .ref 70, .int (M 53 26), .int (M 53 27), .int x, .ref 71, .ref 72, .ref 73, .ref 74, .ref 75]))) = HP lx xs (up M 53 28 x) := rfl
theorem hp_54 : (HP lx xs M)[54]? = some (.inl (0, 6, M 54)) := rfl
theorem hs_54 : (HP lx xs M).set 54 (.inl (0, 6, f)) = HP lx xs (upr M 54 f) := rfl
theorem hp_55 : (HP lx xs M)[55]? = some (.inl (0, 6, M 55)) := rfl
theorem hs_55 : (HP lx xs M).set 55 (.inl (0, 6, f)) = HP lx xs (upr M 55 f) := rfl
theorem hp_56 : (HP lx xs M)[56]? = some (.inl (0, 24, M 56)) := rfl
theorem hs_56 : (HP lx xs M).set 56 (.inl (0, 24, f)) = HP lx xs (upr M 56 f) := rfl
theorem hp_57 : (HP lx xs M)[57]? = some (.inl (0, 4, M 57)) := rfl
theorem hs_57 : (HP lx xs M).set 57 (.inl (0, 4, f)) = HP lx xs (upr M 57 f) := rfl
theorem hp_58 : (HP lx xs M)[58]? = some (.inl (0, 96, M 58)) := rfl
theorem hs_58 : (HP lx xs M).set 58 (.inl (0, 96, f)) = HP lx xs (upr M 58 f) := rfl
theorem hp_59 : (HP lx xs M)[59]? = some (.inl (0, 160, M 59)) := rfl
theorem hs_59 : (HP lx xs M).set 59 (.inl (0, 160, f)) = HP lx xs (upr M 59 f) := rfl
theorem hp_60 : (HP lx xs M)[60]? = some (.inl (0, 96, M 60)) := rfl
theorem hs_60 : (HP lx xs M).set 60 (.inl (0, 96, f)) = HP lx xs (upr M 60 f) := rfl
theorem hp_61 : (HP lx xs M)[61]? = some (.inl (2, 4096, M 61)) := rfl
theorem hs_61 : (HP lx xs M).set 61 (.inl (2, 4096, f)) = HP lx xs (upr M 61 f) := rfl
theorem hp_62 : (HP lx xs M)[62]? = some (.inl (2, 4096, M 62)) := rfl
theorem hs_62 : (HP lx xs M).set 62 (.inl (2, 4096, f)) = HP lx xs (upr M 62 f) := rfl
theorem hp_63 : (HP lx xs M)[63]? = some (.inl (0, 4, M 63)) := rfl
theorem hs_63 : (HP lx xs M).set 63 (.inl (0, 4, f)) = HP lx xs (upr M 63 f) := rfl
theorem hp_64 : (HP lx xs M)[64]? = some (.inl (0, 4096, M 64)) := rfl
theorem hs_64 : (HP lx xs M).set 64 (.inl (0, 4096, f)) = HP lx xs (upr M 64 f) := rfl
theorem hp_65 : (HP lx xs M)[65]? = some (.inl (0, 4096, M 65)) := rfl
theorem hs_65 : (HP lx xs M).set 65 (.inl (0, 4096, f)) = HP lx xs (upr M 65 f) := rfl
theorem hp_66 : (HP lx xs M)[66]? = some (.inl (0, 24, M 66)) := rfl
theorem hs_66 : (HP lx xs M).set 66 (.inl (0, 24, f)) = HP lx xs (upr M 66 f) := rfl
theorem hp_67 : (HP lx xs M)[67]? = some (.inl (0, 6, M 67)) := rfl
theorem hs_67 : (HP lx xs M).set 67 (.inl (0, 6, f)) = HP lx xs (upr M 67 f) := rfl
theorem hp_68 : (HP lx xs M)[68]? = some (.inl (0, 6, M 68)) := rfl
theorem hs_68 : (HP lx xs M).set 68 (.inl (0, 6, f)) = HP lx xs (upr M 68 f) := rfl
theorem hp_69 : (HP lx xs M)[69]? = some (.inl (0, 6, M 69)) := rfl
theorem hs_69 : (HP lx xs M).set 69 (.inl (0, 6, f)) = HP lx xs (upr M 69 f) := rfl
theorem hp_70 : (HP lx xs M)[70]? = some (.inl (0, 6, M 70)) := rfl
theorem hs_70 : (HP lx xs M).set 70 (.inl (0, 6, f)) = HP lx xs (upr M 70 f) := rfl
theorem hp_71 : (HP lx xs M)[71]? = some (.inl (0, 140, M 71)) := rfl
theorem hs_71 : (HP lx xs M).set 71 (.inl (0, 140, f)) = HP lx xs (upr M 71 f) := rfl
theorem hp_72 : (HP lx xs M)[72]? = some (.inl (0, 4, M 72)) := rfl
theorem hs_72 : (HP lx xs M).set 72 (.inl (0, 4, f)) = HP lx xs (upr M 72 f) := rfl
theorem hp_73 : (HP lx xs M)[73]? = some (.inl (0, 4, M 73)) := rfl
theorem hs_73 : (HP lx xs M).set 73 (.inl (0, 4, f)) = HP lx xs (upr M 73 f) := rfl
theorem hp_74 : (HP lx xs M)[74]? = some (.inl (0, 96, M 74)) := rfl
theorem hs_74 : (HP lx xs M).set 74 (.inl (0, 96, f)) = HP lx xs (upr M 74 f) := rfl
theorem hp_75 : (HP lx xs M)[75]? = some (.inl (0, 24, M 75)) := rfl
theorem hs_75 : (HP lx xs M).set 75 (.inl (0, 24, f)) = HP lx xs (upr M 75 f) := rfl
end HPS
section HPR
variable {d k pc : Nat} {L : ex_L} {st : List Value} {Q : Option Value → ex_H → Prop} {h h' : ex_H} {lx : Nat} {xs : Nat → Int32} {M : Nat → Nat → Int32} {x y : Int32} {e : Nat × Nat × Int} {c i : Nat}
def ex_inv (I : Instr) : Bool := match I with
  | .invokevirtual _ => true | .invokestatic _ => true | .invokespecial _ => true | _ => false
theorem ex_cl_no {P : Nat → ex_M} {E : ex_I} {st : List Value} {h : ex_H} (hI : ex_inv E.1 = false) : ex_cl P E st h = none := by
  obtain ⟨I, e⟩ := E
  unfold ex_cl
  dsimp only at hI ⊢
  split
  · rfl
  · split <;> first | (cases hI; done) | rfl
theorem ex_op_idv {v : Int} : ex_op .idiv v (.int y :: .int x :: st) = if y = 0 then none else some (.int (x / y) :: st) := rfl
theorem ex_op_irm {v : Int} : ex_op .irem v (.int y :: .int x :: st) = if y = 0 then none else some (.int (x - x / y * y) :: st) := rfl
theorem go_ic {n : Int} (hc : cd k pc = some (.iconst n, e)) (hv : Int32.ofInt n = x) : Go d k pc L st h Q = Go d k (pc + 1) L (.int x :: st) h Q := by subst hv; exact go_op hc rfl
theorem go_bi {n : Int} (hc : cd k pc = some (.bipush n, e)) (hv : (Int8.ofInt n).toInt32 = x) : Go d k pc L st h Q = Go d k (pc + 2) L (.int x :: st) h Q := by subst hv; exact go_op hc rfl
theorem go_si {n : Int} (hc : cd k pc = some (.sipush n, e)) (hv : (Int16.ofInt n).toInt32 = x) : Go d k pc L st h Q = Go d k (pc + 3) L (.int x :: st) h Q := by subst hv; exact go_op hc rfl
theorem go_ld {v : Int} {a b : Nat} (hc : cd k pc = some (.ldc i, a, b, v)) (hv : Int32.ofInt v = x) : Go d k pc L st h Q = Go d k (pc + 2) L (.int x :: st) h Q := by subst hv; exact go_op hc rfl
theorem go_ldw {v : Int} {a b : Nat} (hc : cd k pc = some (.ldc_w i, a, b, v)) (hv : Int32.ofInt v = x) : Go d k pc L st h Q = Go d k (pc + 3) L (.int x :: st) h Q := by subst hv; exact go_op hc rfl
theorem go_ld2 {v : Int} {a b : Nat} {w : Int64} (hc : cd k pc = some (.ldc2_w i, a, b, v)) (hv : Int64.ofInt v = w) : Go d k pc L st h Q = Go d k (pc + 3) L (.long w :: st) h Q := by subst hv; exact go_op hc rfl
theorem go_idv (hc : cd k pc = some (.idiv, e)) : Go d k pc L (.int y :: .int x :: st) h Q = (¬ y = 0 ∧ Go d k (pc + 1) L (.int (x / y) :: st) h Q) := by
  by_cases hy : y = 0
  · rw [go_bad hc (ex_op_idv.trans (if_pos hy)) rfl rfl rfl rfl (ex_cl_no rfl)]
    simp [hy]
  · rw [go_op hc (ex_op_idv.trans (if_neg hy))]
    simp [hy]; rfl
theorem go_irm (hc : cd k pc = some (.irem, e)) : Go d k pc L (.int y :: .int x :: st) h Q = (¬ y = 0 ∧ Go d k (pc + 1) L (.int (x - x / y * y) :: st) h Q) := by
  by_cases hy : y = 0
  · rw [go_bad hc (ex_op_irm.trans (if_pos hy)) rfl rfl rfl rfl (ex_cl_no rfl)]
    simp [hy]
  · rw [go_op hc (ex_op_irm.trans (if_neg hy))]
    simp [hy]; rfl
theorem go_ts {df lo hi i off : Int} {offs : Array Int} {j t : Nat} (hc : cd k pc = some (.tableswitch df lo hi offs, e)) (hx : (nI j).toInt = i) (h1 : ¬ (i < lo ∨ hi < i)) (ho : offs[(i - lo).toNat]? = some off) (hj : ex_jmp pc off = some t) : Go d k pc L (.int (nI j) :: st) h Q = Go d k t L st h Q := by
  subst hx
  exact go_go hc rfl rfl (by unfold ex_go; dsimp only; rw [if_neg h1, ho]; dsimp only; rw [hj]; rfl)
theorem go_td {df lo hi : Int} {offs : Array Int} {t : Nat} (hc : cd k pc = some (.tableswitch df lo hi offs, e)) (hx : x.toInt < lo ∨ hi < x.toInt) (hj : ex_jmp pc df = some t) : Go d k pc L (.int x :: st) h Q = Go d k t L st h Q :=
  go_go hc rfl rfl (by unfold ex_go; dsimp only; rw [if_pos hx, hj]; rfl)
theorem go_lk {df off : Int} {ps : Array (Int × Int)} {t : Nat} (hc : cd k pc = some (.lookupswitch df ps, e)) (ho : Op.lookupswitch.offset ps.toList df x.toInt = off) (hj : ex_jmp pc off = some t) : Go d k pc L (.int x :: st) h Q = Go d k t L st h Q :=
  go_go hc rfl rfl (by unfold ex_go; dsimp only; rw [ho, hj]; rfl)
theorem go_gf {a b : Nat} {v0 : Int} {fs : List Value} {v : Value} (hc : cd k pc = some (.getfield i, a, b, v0)) (hg : h[c]? = some (.inr (.inr (a, fs)))) (h0 : c ≠ 0) (hf : fs[b]? = some v) : Go d k pc L (.ref c :: st) h Q = Go d k (pc + 3) L (v :: st) h Q :=
  go_hp hc rfl rfl rfl (by unfold ex_hp ex_getf; simp [hg, h0, hf])
theorem go_pf {a b : Nat} {t : Int} {fs : List Value} {v : Value} (hc : cd k pc = some (.putfield i, a, b, t)) (hg : h[c]? = some (.inr (.inr (a, fs)))) (h0 : c ≠ 0) (hl : b < fs.length) (hv : ex_fit t v = true) (hs : h.set c (.inr (.inr (a, fs.set b v))) = h') : Go d k pc L (v :: .ref c :: st) h Q = Go d k (pc + 3) L st h' Q :=
  go_hp hc (by cases v <;> rfl) rfl (by cases v <;> rfl) (by unfold ex_hp ex_putf; simp [hg, h0, Nat.not_le.mpr hl, hv, hs])
theorem go_al {n : Nat} {f : Nat → Int32} (hc : cd k pc = some (.iaload, e)) (hg : h[c]? = some (.inl (0, n, f))) : Go d k pc L (.int x :: .ref c :: st) h Q = (ex_in x n = true ∧ Go d k (pc + 1) L (.int (f x.toNatClampNeg) :: st) h Q) := by
  by_cases hi : ex_in x n = true
  · rw [go_hp hc rfl rfl rfl (show ex_ald _ _ = some (.int (f x.toNatClampNeg) :: st, h) by unfold ex_ald; simp [hg, hi])]
    simp [hi]; rfl
  · rw [go_bad hc rfl rfl rfl (show ex_ald _ _ = none by unfold ex_ald; simp [hg, hi]) rfl (ex_cl_no rfl)]
    simp [hi]
theorem go_bl {t n : Nat} {f : Nat → Int32} (hc : cd k pc = some (.baload, e)) (hg : h[c]? = some (.inl (t, n, f))) (h0 : c ≠ 0) (ht : t = 1 ∨ t = 2) : Go d k pc L (.int x :: .ref c :: st) h Q = (ex_in x n = true ∧ Go d k (pc + 1) L (.int (f x.toNatClampNeg) :: st) h Q) := by
  by_cases hi : ex_in x n = true
  · rw [go_hp hc rfl rfl rfl (show ex_bld _ _ = some (.int (f x.toNatClampNeg) :: st, h) by rcases ht with rfl | rfl <;> unfold ex_bld <;> simp [hg, hi, h0])]
    simp [hi]; rfl
  · rw [go_bad hc rfl rfl rfl (show ex_bld _ _ = none by rcases ht with rfl | rfl <;> unfold ex_bld <;> simp [hg, hi]) rfl (ex_cl_no rfl)]
    simp [hi]
theorem go_as {n : Nat} {f : Nat → Int32} (hc : cd k pc = some (.iastore, e)) (hg : h[c]? = some (.inl (0, n, f))) (h0 : c ≠ 0) (hs : h.set c (.inl (0, n, upd f x.toNatClampNeg y)) = h') : Go d k pc L (.int y :: .int x :: .ref c :: st) h Q = (ex_in x n = true ∧ Go d k (pc + 1) L st h' Q) := by
  by_cases hi : ex_in x n = true
  · rw [go_hp hc rfl rfl rfl (show ex_ast _ _ = some (st, h') by unfold ex_ast; simp [hg, hi, h0, hs])]
    simp [hi]; rfl
  · rw [go_bad hc rfl rfl rfl (show ex_ast _ _ = none by unfold ex_ast; simp [hg, hi]) rfl (ex_cl_no rfl)]
    simp [hi]
theorem go_bs1 {n : Nat} {f : Nat → Int32} (hc : cd k pc = some (.bastore, e)) (hg : h[c]? = some (.inl (1, n, f))) (h0 : c ≠ 0) (hs : h.set c (.inl (1, n, upd f x.toNatClampNeg (vp_nar .byte y))) = h') : Go d k pc L (.int y :: .int x :: .ref c :: st) h Q = (ex_in x n = true ∧ Go d k (pc + 1) L st h' Q) := by
  by_cases hi : ex_in x n = true
  · rw [go_hp hc rfl rfl rfl (show ex_bst _ _ = some (st, h') by unfold ex_bst; simp [hg, hi, h0, hs])]
    simp [hi]; rfl
  · rw [go_bad hc rfl rfl rfl (show ex_bst _ _ = none by unfold ex_bst; simp [hg, hi]) rfl (ex_cl_no rfl)]
    simp [hi]
theorem go_bs2 {n : Nat} {f : Nat → Int32} (hc : cd k pc = some (.bastore, e)) (hg : h[c]? = some (.inl (2, n, f))) (h0 : c ≠ 0) (hs : h.set c (.inl (2, n, upd f x.toNatClampNeg (vp_nar .boolean y))) = h') : Go d k pc L (.int y :: .int x :: .ref c :: st) h Q = (ex_in x n = true ∧ Go d k (pc + 1) L st h' Q) := by
  by_cases hi : ex_in x n = true
  · rw [go_hp hc rfl rfl rfl (show ex_bst _ _ = some (st, h') by unfold ex_bst; simp [hg, hi, h0, hs])]
    simp [hi]; rfl
  · rw [go_bad hc rfl rfl rfl (show ex_bst _ _ = none by unfold ex_bst; simp [hg, hi]) rfl (ex_cl_no rfl)]
    simp [hi]
theorem go_ql {n r : Nat} {f : Nat → Option Nat} (hc : cd k pc = some (.aaload, e)) (hg : h[c]? = some (.inr (.inl (n, f)))) (h0 : c ≠ 0) (hi : ex_in x n = true) (hf : f x.toNatClampNeg = some r) : Go d k pc L (.int x :: .ref c :: st) h Q = Go d k (pc + 1) L (.ref r :: st) h Q :=
  go_hp hc rfl rfl rfl (by unfold ex_hp ex_qld; simp [hg, hi, h0, hf])
theorem go_len {n : Nat} {f : Nat → Int32} (hc : cd k pc = some (.arraylength, e)) (hg : h[c]? = some (.inl (0, n, f))) : Go d k pc L (.ref c :: st) h Q = Go d k (pc + 1) L (.int (nI n) :: st) h Q :=
  go_hp hc rfl rfl rfl (by unfold ex_hp ex_aln; simp [hg, nI])
theorem go_len1 {n : Nat} {f : Nat → Int32} (hc : cd k pc = some (.arraylength, e)) (hg : h[c]? = some (.inl (1, n, f))) (h0 : c ≠ 0) : Go d k pc L (.ref c :: st) h Q = Go d k (pc + 1) L (.int (nI n) :: st) h Q :=
  go_hp hc rfl rfl rfl (by unfold ex_hp ex_aln; simp [hg, h0, nI])
theorem go_cx {E : ex_I} {k' : Nat} {as st' : List Value} {L2 : ex_L} (hc : cd k pc = some E) (h1 : ex_op E.1 E.2.2.2 st = none) (h2 : ex_lo (xP k) E L st = none) (h3 : ex_go pc E st = none) (h4 : ex_hp (d + 1) E st h = none) (h5 : ex_rt (xP k) E st = none) (ho : ex_cl xP E st h = some (k', as, st')) (he : ex_en (xP k') as = L2) : Go (d + 1) k pc L st h Q = Go d k' 0 L2 [] h (fun v h' => Go (d + 1) k (pc + 3) L (ap v st') h' Q) := by rw [← he]; exact go_cl hc h1 h2 h3 h4 h5 ho
theorem go_ri (hc : cd k pc = some (.ireturn, e)) (hr : (xP k).2.2.2.2.1 = some .int) : Go d k pc L [.int x] h Q = Q (some (.int x)) h := go_rt hc rfl rfl rfl rfl (by unfold ex_rt; simp [hr])
theorem go_rz (hc : cd k pc = some (.ireturn, e)) (hr : (xP k).2.2.2.2.1 = some .boolean) (hx : x = nI 0 ∨ x = nI 1) : Go d k pc L [.int x] h Q = Q (some (.int x)) h := go_rt hc rfl rfl rfl rfl (by
  have hx : x = 0 ∨ x = 1 := hx
  unfold ex_rt; simp [hr, hx])
theorem go_rv (hc : cd k pc = some (.return_, e)) (hr : (xP k).2.2.2.2.1 = none) : Go d k pc L [] h Q = Q none h := go_rt hc rfl rfl rfl rfl (by unfold ex_rt; simp [hr])
/-- System.arraycopy between rows of ints -/
theorem go_cp {a v : Nat} {w : Int} {n dp sp : Int32} {a0 a1 n0 n1 : Nat} {f q : Nat → Int32} (hc : cd k pc = some (.invokestatic i, a, 3, w)) (h0 : h[a0]? = some (.inl (0, n0, f))) (h1 : h[a1]? = some (.inl (0, n1, q))) (z0 : a0 ≠ 0) (z1 : a1 ≠ 0) (hi : ¬ sp < 0 ∧ ¬ dp < 0 ∧ ¬ n < 0 ∧ sp.toNatClampNeg + n.toNatClampNeg ≤ n0 ∧ dp.toNatClampNeg + n.toNatClampNeg ≤ n1) (hst : (st.map fun v => v.category).sum ≤ 8) (hs : h.set a1 (.inl (0, n1, va_cpy f q sp.toNatClampNeg dp.toNatClampNeg n.toNatClampNeg)) = h') : Go (d + 1) k pc L (.int n :: .int dp :: .ref a1 :: .int sp :: .ref a0 :: st) h Q = Go (d + 1) k (pc + 3) L st h' Q :=
  go_hp hc rfl rfl rfl (by
    obtain ⟨i1, i2, i3, i4, i5⟩ := hi
    unfold ex_hp
    dsimp only
    rw [if_pos rfl]
    unfold ex_cpy
    simp only [h0, h1]
    rw [if_pos ⟨by omega, z0, z1, i1, i2, i3, i4, i5, hst⟩, hs])
end HPR
theorem ci_bm20 : (Int8.ofInt (-20)).toInt32 = -20 := by decide +kernel
theorem ci_bm14 : (Int8.ofInt (-14)).toInt32 = -14 := by decide +kernel
theorem ci_bm13 : (Int8.ofInt (-13)).toInt32 = -13 := by decide +kernel
theorem ci_bm12 : (Int8.ofInt (-12)).toInt32 = -12 := by decide +kernel
theorem ci_bm11 : (Int8.ofInt (-11)).toInt32 = -11 := by decide +kernel
theorem ci_bm4 : (Int8.ofInt (-4)).toInt32 = -4 := by decide +kernel
theorem ci_bm3 : (Int8.ofInt (-3)).toInt32 = -3 := by decide +kernel
theorem ci_bm2 : (Int8.ofInt (-2)).toInt32 = -2 := by decide +kernel
theorem ci_b6 : (Int8.ofInt 6).toInt32 = nI 6 := by decide +kernel
theorem ci_b7 : (Int8.ofInt 7).toInt32 = nI 7 := by decide +kernel
theorem ci_b8 : (Int8.ofInt 8).toInt32 = nI 8 := by decide +kernel
theorem ci_b9 : (Int8.ofInt 9).toInt32 = nI 9 := by decide +kernel
theorem ci_b12 : (Int8.ofInt 12).toInt32 = nI 12 := by decide +kernel
theorem ci_b15 : (Int8.ofInt 15).toInt32 = nI 15 := by decide +kernel
theorem ci_b16 : (Int8.ofInt 16).toInt32 = nI 16 := by decide +kernel
theorem ci_b23 : (Int8.ofInt 23).toInt32 = nI 23 := by decide +kernel
theorem ci_b24 : (Int8.ofInt 24).toInt32 = nI 24 := by decide +kernel
theorem ci_b31 : (Int8.ofInt 31).toInt32 = nI 31 := by decide +kernel
theorem ci_b32 : (Int8.ofInt 32).toInt32 = nI 32 := by decide +kernel
theorem ci_b36 : (Int8.ofInt 36).toInt32 = nI 36 := by decide +kernel
theorem ci_b40 : (Int8.ofInt 40).toInt32 = nI 40 := by decide +kernel
theorem ci_b44 : (Int8.ofInt 44).toInt32 = nI 44 := by decide +kernel
theorem ci_b48 : (Int8.ofInt 48).toInt32 = nI 48 := by decide +kernel
theorem ci_b59 : (Int8.ofInt 59).toInt32 = nI 59 := by decide +kernel
theorem ci_b60 : (Int8.ofInt 60).toInt32 = nI 60 := by decide +kernel
theorem ci_b62 : (Int8.ofInt 62).toInt32 = nI 62 := by decide +kernel
theorem ci_b63 : (Int8.ofInt 63).toInt32 = nI 63 := by decide +kernel
theorem ci_b96 : (Int8.ofInt 96).toInt32 = nI 96 := by decide +kernel
theorem ci_b97 : (Int8.ofInt 97).toInt32 = nI 97 := by decide +kernel
theorem ci_b104 : (Int8.ofInt 104).toInt32 = nI 104 := by decide +kernel
theorem ci_b108 : (Int8.ofInt 108).toInt32 = nI 108 := by decide +kernel
theorem ci_b112 : (Int8.ofInt 112).toInt32 = nI 112 := by decide +kernel
theorem ci_b119 : (Int8.ofInt 119).toInt32 = nI 119 := by decide +kernel
theorem ci_b126 : (Int8.ofInt 126).toInt32 = nI 126 := by decide +kernel
theorem ci_im1 : Int32.ofInt (-1) = -1 := by decide +kernel
theorem ci_i0 : Int32.ofInt 0 = nI 0 := by decide +kernel
theorem ci_i1 : Int32.ofInt 1 = nI 1 := by decide +kernel
theorem ci_i2 : Int32.ofInt 2 = nI 2 := by decide +kernel
theorem ci_i3 : Int32.ofInt 3 = nI 3 := by decide +kernel
theorem ci_i4 : Int32.ofInt 4 = nI 4 := by decide +kernel
theorem ci_i5 : Int32.ofInt 5 = nI 5 := by decide +kernel
theorem ci_i6 : Int32.ofInt 6 = nI 6 := by decide +kernel
theorem ci_i65536 : Int32.ofInt 65536 = nI 65536 := by decide +kernel
theorem ci_i1000000 : Int32.ofInt 1000000 = nI 1000000 := by decide +kernel
theorem ci_i252645135 : Int32.ofInt 252645135 = nI 252645135 := by decide +kernel
theorem ci_i858993459 : Int32.ofInt 858993459 = nI 858993459 := by decide +kernel
theorem ci_i1103515245 : Int32.ofInt 1103515245 = nI 1103515245 := by decide +kernel
theorem ci_i1431655765 : Int32.ofInt 1431655765 = nI 1431655765 := by decide +kernel
theorem ci_i2147483647 : Int32.ofInt 2147483647 = nI 2147483647 := by decide +kernel
theorem ci_lm1 : Int64.ofInt (-1) = -1 := by decide +kernel
theorem ci_l2 : Int64.ofInt 2 = lN 2 := by decide +kernel
theorem ci_l3 : Int64.ofInt 3 = lN 3 := by decide +kernel
theorem ci_l6 : Int64.ofInt 6 = lN 6 := by decide +kernel
theorem ci_l8 : Int64.ofInt 8 = lN 8 := by decide +kernel
theorem ci_l15 : Int64.ofInt 15 = lN 15 := by decide +kernel
theorem ci_l32 : Int64.ofInt 32 = lN 32 := by decide +kernel
theorem ci_l60 : Int64.ofInt 60 = lN 60 := by decide +kernel
theorem ci_l96 : Int64.ofInt 96 = lN 96 := by decide +kernel
theorem ci_l97 : Int64.ofInt 97 = lN 97 := by decide +kernel
theorem ci_l100 : Int64.ofInt 100 = lN 100 := by decide +kernel
theorem ci_l126 : Int64.ofInt 126 = lN 126 := by decide +kernel
theorem ci_l255 : Int64.ofInt 255 = lN 255 := by decide +kernel
theorem ci_l12345 : Int64.ofInt 12345 = lN 12345 := by decide +kernel
theorem ci_l1103515245 : Int64.ofInt 1103515245 = lN 1103515245 := by decide +kernel
theorem ci_l2147483647 : Int64.ofInt 2147483647 = lN 2147483647 := by decide +kernel
theorem ci_l4294967295 : Int64.ofInt 4294967295 = lN 4294967295 := by decide +kernel
theorem ci_s136 : (Int16.ofInt 136).toInt32 = nI 136 := by decide +kernel
theorem ci_s137 : (Int16.ofInt 137).toInt32 = nI 137 := by decide +kernel
theorem ci_s138 : (Int16.ofInt 138).toInt32 = nI 138 := by decide +kernel
theorem ci_s139 : (Int16.ofInt 139).toInt32 = nI 139 := by decide +kernel
theorem ci_s140 : (Int16.ofInt 140).toInt32 = nI 140 := by decide +kernel
theorem ci_s144 : (Int16.ofInt 144).toInt32 = nI 144 := by decide +kernel
theorem ci_s160 : (Int16.ofInt 160).toInt32 = nI 160 := by decide +kernel
theorem ci_s12345 : (Int16.ofInt 12345).toInt32 = nI 12345 := by decide +kernel
