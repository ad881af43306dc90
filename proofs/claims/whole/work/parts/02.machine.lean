/-! A PURE MACHINE over the claim's own instructions: a heap of cells by numbers (0: the script), locals by places, calls by method numbers. -/
/-- a cell: a row of numbers (0 ints, 1 bytes, 2 booleans; length; contents), a row of cells, or an object (class, fields) -/
abbrev ex_E : Type := (Nat × Nat × (Nat → Int32)) ⊕ ((Nat × (Nat → Option Nat)) ⊕ (Nat × List Value))
abbrev ex_H : Type := List ex_E
/-- an instruction with what its number of the constant pool means -/
abbrev ex_I : Type := Instr × Nat × Nat × Int
abbrev ex_L : Type := List (Option Value)
/-- own class, name, bytes, locals, answer, how many it takes off the stack, where longs stand, code -/
abbrev ex_M : Type := String × MethodName × ByteArray × Nat × Option FieldType × Nat × List Nat × (Nat → Option ex_I)
/-- on, back with an answer, or a call (method, arguments, where it goes on, the rest of the stack) -/
abbrev ex_R : Type := (Nat × ex_L × List Value × ex_H) ⊕ (Option Value ⊕ (Nat × List Value × Nat × List Value))
def ex_tyF (ci : Nat) : Nat → FieldType := match ci with
  | 0 => tyX0 | 1 => tyX1 | 2 => tyX2 | 3 => tyX3 | 4 => tyX4 | 5 => tyX5 | 6 => tyX6 | _ => tyX7
def ex_nF (ci : Nat) : Nat := match ci with
  | 0 => 4 | 1 => 6 | 2 => 4 | 3 => 13 | 4 => 9 | 5 => 3 | 6 => 7 | _ => 34
def ex_ci (C : String) : Nat := if C = RX0 then 0 else if C = RX1 then 1 else if C = RX2 then 2 else if C = RX3 then 3 else if C = RX4 then 4 else if C = RX5 then 5 else if C = RX6 then 6 else if C = RX7 then 7 else 8
def ex_c (c : ClassFile.Cond) (x y : Int32) : Bool := match c with
  | .eq => decide (x = y) | .ne => decide (¬ x = y) | .lt => decide (x < y) | .ge => decide (y ≤ x) | .gt => decide (y < x) | .le => decide (x ≤ y)
/-- the stack alone -/
def ex_op (I : Instr) (v : Int) (st : List Value) : Option (List Value) := match I, st with
  | .iconst n, st => some (.int (Int32.ofInt n) :: st)
  | .bipush n, st => some (.int ((Int8.ofInt n).toInt32) :: st)
  | .sipush n, st => some (.int ((Int16.ofInt n).toInt32) :: st)
  | .ldc _, st => some (.int (Int32.ofInt v) :: st)
  | .ldc_w _, st => some (.int (Int32.ofInt v) :: st)
  | .lconst n, st => some (.long (Int64.ofNat (n : Nat)) :: st)
  | .ldc2_w _, st => some (.long (Int64.ofInt v) :: st)
  | .iadd, .int y :: .int x :: st => some (.int (x + y) :: st)
  | .isub, .int y :: .int x :: st => some (.int (x - y) :: st)
  | .imul, .int y :: .int x :: st => some (.int (x * y) :: st)
  | .iand, .int y :: .int x :: st => some (.int (x &&& y) :: st)
  | .ior, .int y :: .int x :: st => some (.int (x ||| y) :: st)
  | .ixor, .int y :: .int x :: st => some (.int (x ^^^ y) :: st)
  | .ishl, .int y :: .int x :: st => some (.int (x <<< (y &&& 31)) :: st)
  | .ishr, .int y :: .int x :: st => some (.int (x >>> (y &&& 31)) :: st)
  | .iushr, .int y :: .int x :: st => some (.int ((x.toUInt32 >>> (y.toUInt32 &&& Int32.toUInt32 31)).toInt32) :: st)
  | .idiv, .int y :: .int x :: st => if y = 0 then none else some (.int (x / y) :: st)
  | .irem, .int y :: .int x :: st => if y = 0 then none else some (.int (x - x / y * y) :: st)
  | .ineg, .int x :: st => some (.int (-x) :: st)
  | .i2b, .int x :: st => some (.int (x.toInt8.toInt32) :: st)
  | .i2s, .int x :: st => some (.int (x.toInt16.toInt32) :: st)
  | .i2l, .int x :: st => some (.long (x.toInt64) :: st)
  | .l2i, .long x :: st => some (.int (x.toInt32) :: st)
  | .ladd, .long y :: .long x :: st => some (.long (x + y) :: st)
  | .lsub, .long y :: .long x :: st => some (.long (x - y) :: st)
  | .lmul, .long y :: .long x :: st => some (.long (x * y) :: st)
  | .land, .long y :: .long x :: st => some (.long (x &&& y) :: st)
  | .lor, .long y :: .long x :: st => some (.long (x ||| y) :: st)
  | .lshl, .int y :: .long x :: st => some (.long (x <<< (y.toInt64 &&& 63)) :: st)
  | .lshr, .int y :: .long x :: st => some (.long (x >>> (y.toInt64 &&& 63)) :: st)
  | .lcmp, .long y :: .long x :: st => some (.int (lg_cmp x y) :: st)
  | .dup, a :: st => if a.category = 1 then some (a :: a :: st) else none
  | .pop, a :: st => if a.category = 1 then some st else none
  | .dup_x1, a :: b :: st => if a.category = 1 ∧ b.category = 1 then some (a :: b :: a :: st) else none
  | .dup2, a :: b :: st => if a.category = 1 ∧ b.category = 1 then some (a :: b :: a :: b :: st) else none
  | _, _ => none
def ex_len (I : Instr) : Nat := match I with
  | .bipush _ | .iload _ | .aload _ | .lload _ | .istore _ | .astore _ | .ldc _ | .newarray _ => 2
  | .sipush _ | .iinc _ _ | .ifCond _ _ | .if_icmp _ _ | .goto _ | .getfield _ | .putfield _ | .invokevirtual _ | .invokestatic _ | .invokespecial _ | .new _ | .anewarray _ | .ldc_w _ | .ldc2_w _ => 3
  | _ => 1
def ex_ld (L : ex_L) (i : Nat) : Option Value := match L[i]? with
  | some (some v) => some v
  | _ => none
/-- a store of one slot: no long stands there or ahead of it -/
def ex_st (lg : List Nat) (L : ex_L) (i : Nat) (v : Value) : Option ex_L := if i < L.length ∧ i ∉ lg ∧ i - 1 ∉ lg ∧ v.category = 1 then some (L.set i (some v)) else none
def ex_jmp (pc : Nat) (off : Int) : Option Nat := if 0 ≤ (pc : Int) + off then some ((pc : Int) + off).toNat else none
def ex_ar (t : ArrayType) : Option Nat := match t with
  | .int => some 0 | .byte => some 1 | .boolean => some 2 | _ => none
def ex_df (ci : Nat) : List Value := (List.range (ex_nF ci)).map (fun k => defaultValue (ex_tyF ci k))
def ex_in (i : Int32) (n : Nat) : Bool := decide (¬ (i < 0 ∨ n ≤ i.toNatClampNeg))
/-- a field of this kind (0 int, 1 boolean, 2 a reference) takes this value -/
def ex_fit (k : Int) (v : Value) : Bool := match v with
  | .int x => decide (k = 0) || (decide (k = 1) && (decide (x = 0) || decide (x = 1)))
  | .ref _ => decide (k = 2)
  | _ => false
def ex_sz (x : ex_E) : Nat := match x with
  | .inl q => q.2.1
  | .inr (.inl q) => q.1
  | .inr (.inr q) => ex_nF q.1
def ex_hs (h : ex_H) : Nat := (h.map ex_sz).sum
def ex_getf (E : ex_I) (st : List Value) (h : ex_H) : Option (List Value × ex_H) := match st with
  | .ref c :: st => match h[c]? with
    | some (.inr (.inr (ci, fs))) => if c = 0 ∨ ci ≠ E.2.1 then none else match fs[E.2.2.1]? with
      | some v => some (v :: st, h)
      | none => none
    | _ => none
  | _ => none
def ex_putf (E : ex_I) (st : List Value) (h : ex_H) : Option (List Value × ex_H) := match st with
  | v :: .ref c :: st => match h[c]? with
    | some (.inr (.inr (ci, fs))) => if c = 0 ∨ ci ≠ E.2.1 ∨ fs.length ≤ E.2.2.1 ∨ ex_fit E.2.2.2 v = false then none else some (st, h.set c (.inr (.inr (ci, fs.set E.2.2.1 v))))
    | _ => none
  | _ => none
def ex_ald (st : List Value) (h : ex_H) : Option (List Value × ex_H) := match st with
  | .int i :: .ref c :: st => match h[c]? with
    | some (.inl (0, n, f)) => if ex_in i n then some (.int (f i.toNatClampNeg) :: st, h) else none
    | _ => none
  | _ => none
def ex_bld (st : List Value) (h : ex_H) : Option (List Value × ex_H) := match st with
  | .int i :: .ref c :: st => match h[c]? with
    | some (.inl (1, n, f)) => if c ≠ 0 ∧ ex_in i n then some (.int (f i.toNatClampNeg) :: st, h) else none
    | some (.inl (2, n, f)) => if c ≠ 0 ∧ ex_in i n then some (.int (f i.toNatClampNeg) :: st, h) else none
    | _ => none
  | _ => none
def ex_qld (st : List Value) (h : ex_H) : Option (List Value × ex_H) := match st with
  | .int i :: .ref c :: st => match h[c]? with
    | some (.inr (.inl (n, f))) => if c ≠ 0 ∧ ex_in i n then match f i.toNatClampNeg with
        | some r => some (.ref r :: st, h)
        | none => none
      else none
    | _ => none
  | _ => none
def ex_ast (st : List Value) (h : ex_H) : Option (List Value × ex_H) := match st with
  | .int x :: .int i :: .ref c :: st => match h[c]? with
    | some (.inl (0, n, f)) => if c ≠ 0 ∧ ex_in i n then some (st, h.set c (.inl (0, n, upd f i.toNatClampNeg x))) else none
    | _ => none
  | _ => none
def ex_bst (st : List Value) (h : ex_H) : Option (List Value × ex_H) := match st with
  | .int x :: .int i :: .ref c :: st => match h[c]? with
    | some (.inl (1, n, f)) => if c ≠ 0 ∧ ex_in i n then some (st, h.set c (.inl (1, n, upd f i.toNatClampNeg (vp_nar .byte x)))) else none
    | some (.inl (2, n, f)) => if c ≠ 0 ∧ ex_in i n then some (st, h.set c (.inl (2, n, upd f i.toNatClampNeg (vp_nar .boolean x)))) else none
    | _ => none
  | _ => none
def ex_qst (st : List Value) (h : ex_H) : Option (List Value × ex_H) := match st with
  | .ref v :: .int i :: .ref c :: st => match h[c]?, h[v]? with
    | some (.inr (.inl (n, f))), some (.inr (.inr (5, _))) => if c ≠ 0 ∧ v ≠ 0 ∧ ex_in i n then some (st, h.set c (.inr (.inl (n, va_up f i.toNatClampNeg (some v))))) else none
    | _, _ => none
  | _ => none
def ex_aln (st : List Value) (h : ex_H) : Option (List Value × ex_H) := match st with
  | .ref c :: st => match h[c]? with
    | some (.inl (0, n, _)) => some (.int (Int32.ofNat n) :: st, h)
    | some (.inl (1, n, _)) => if c ≠ 0 then some (.int (Int32.ofNat n) :: st, h) else none
    | _ => none
  | _ => none
def ex_new (E : ex_I) (st : List Value) (h : ex_H) : Option (List Value × ex_H) := if E.2.1 < 8 then some (.ref h.length :: st, h ++ [.inr (.inr (E.2.1, ex_df E.2.1))]) else none
def ex_nar (t : ArrayType) (st : List Value) (h : ex_H) : Option (List Value × ex_H) := match st with
  | .int n :: st => match ex_ar t with
    | some k => if ¬ n < 0 ∧ n.toNatClampNeg ≤ 100000 then some (.ref h.length :: st, h ++ [.inl (k, n.toNatClampNeg, fun _ => 0)]) else none
    | none => none
  | _ => none
def ex_nqr (st : List Value) (h : ex_H) : Option (List Value × ex_H) := match st with
  | .int n :: st => if ¬ n < 0 ∧ n.toNatClampNeg ≤ 100000 then some (.ref h.length :: st, h ++ [.inr (.inl (n.toNatClampNeg, fun _ => none))]) else none
  | _ => none
def ex_cpy (d : Nat) (st : List Value) (h : ex_H) : Option (List Value × ex_H) := match st with
  | .int n :: .int dp :: .ref a1 :: .int sp :: .ref a0 :: st => match h[a0]?, h[a1]? with
    | some (.inl (0, n0, f)), some (.inl (0, n1, g)) => if d ≠ 0 ∧ a0 ≠ 0 ∧ a1 ≠ 0 ∧ ¬ sp < 0 ∧ ¬ dp < 0 ∧ ¬ n < 0 ∧ sp.toNatClampNeg + n.toNatClampNeg ≤ n0 ∧ dp.toNatClampNeg + n.toNatClampNeg ≤ n1 ∧ (st.map fun v => v.category).sum ≤ 8 then some (st, h.set a1 (.inl (0, n1, va_cpy f g sp.toNatClampNeg dp.toNatClampNeg n.toNatClampNeg))) else none
    | _, _ => none
  | _ => none
def ex_obj (d : Nat) (st : List Value) (h : ex_H) : Option (List Value × ex_H) := match st with
  | .ref _ :: st => if d ≠ 0 ∧ (st.map fun v => v.category).sum ≤ 8 then some (st, h) else none
  | _ => none
/-- the heap's instructions -/
def ex_hp (d : Nat) (E : ex_I) (st : List Value) (h : ex_H) : Option (List Value × ex_H) := match E.1 with
  | .getfield _ => ex_getf E st h
  | .putfield _ => ex_putf E st h
  | .iaload => ex_ald st h
  | .baload => ex_bld st h
  | .aaload => ex_qld st h
  | .iastore => ex_ast st h
  | .bastore => ex_bst st h
  | .aastore => ex_qst st h
  | .arraylength => ex_aln st h
  | .new _ => ex_new E st h
  | .newarray t => ex_nar t st h
  | .anewarray _ => ex_nqr st h
  | .invokestatic _ => if E.2.2.1 = 3 then ex_cpy d st h else none
  | .invokespecial _ => if E.2.2.1 = 2 then ex_obj d st h else none
  | _ => none
def ex_lds (I : Instr) : Option (Nat × Nat) := match I with
  | .iload i => some (i, 0) | .iload_n i => some (i.val, 0) | .aload i => some (i, 1) | .aload_n i => some (i.val, 1) | .lload i => some (i, 2) | .lload_n i => some (i.val, 2) | _ => none
def ex_sts (I : Instr) : Option (Nat × Nat) := match I with
  | .istore i => some (i, 0) | .istore_n i => some (i.val, 0) | .astore i => some (i, 1) | .astore_n i => some (i.val, 1) | _ => none
def ex_isk (k : Nat) (v : Value) : Bool := match v with
  | .int _ => decide (k = 0) | .ref _ => decide (k = 1) | .long _ => decide (k = 2) | _ => false
/-- where it goes: jumps and switches -/
def ex_go (pc : Nat) (E : ex_I) (st : List Value) : Option (Nat × List Value) := match E.1, st with
  | .goto _, st => some (E.2.1, st)
  | .ifCond c _, .int x :: st => some (if ex_c c x 0 then E.2.1 else pc + 3, st)
  | .if_icmp c _, .int y :: .int x :: st => some (if ex_c c x y then E.2.1 else pc + 3, st)
  | .tableswitch dflt lo hi offs, .int x :: st => if x.toInt < lo ∨ hi < x.toInt then (ex_jmp pc dflt).map (fun t => (t, st)) else match offs[(x.toInt - lo).toNat]? with
    | some off => (ex_jmp pc off).map (fun t => (t, st))
    | none => none
  | .lookupswitch dflt ps, .int x :: st => (ex_jmp pc (Op.lookupswitch.offset ps.toList dflt x.toInt)).map (fun t => (t, st))
  | _, _ => none
def ex_lo (M : ex_M) (E : ex_I) (L : ex_L) (st : List Value) : Option (ex_L × List Value) := match ex_lds E.1 with
  | some (i, k) => match ex_ld L i with
    | some v => if ex_isk k v then some (L, v :: st) else none
    | none => none
  | none => match ex_sts E.1 with
    | some (i, k) => match st with
      | v :: st => if ex_isk k v then (ex_st M.2.2.2.2.2.2.1 L i v).map (fun L' => (L', st)) else none
      | [] => none
    | none => match E.1 with
      | .iinc i n => match ex_ld L i with
        | some (.int x) => (ex_st M.2.2.2.2.2.2.1 L i (.int (x + Int32.ofInt n))).map (fun L' => (L', st))
        | _ => none
      | _ => none
def ex_rt (M : ex_M) (E : ex_I) (st : List Value) : Option (Option Value) := match E.1, st with
  | .ireturn, [.int x] => if M.2.2.2.2.1 = some .int ∨ (M.2.2.2.2.1 = some .boolean ∧ (x = 0 ∨ x = 1)) then some (some (.int x)) else none
  | .return_, [] => if M.2.2.2.2.1 = none then some none else none
  | _, _ => none
/-- the object that a method is called of -/
def ex_rcv (E : ex_I) (as : List Value) (h : ex_H) : Bool := match as with
  | .ref c :: _ => match h[c]? with
    | some (.inr (.inr (ci, _))) => decide (c ≠ 0) && decide ((ci : Int) = E.2.2.2)
    | _ => false
  | _ => false
def ex_sl (as : List Value) : ex_L := as.flatMap (fun v => if v.category = 2 then [some v, none] else [some v])
def ex_en (M : ex_M) (as : List Value) : ex_L := ex_sl as ++ List.replicate (M.2.2.2.1 - (ex_sl as).length) none
/-- the arguments fit the locals, and longs stand where they are said to -/
def ex_lok (lg : List Nat) : Nat → ex_L → Bool
  | _, [] => true
  | i, some (.long _) :: l => decide (i ∈ lg) && ex_lok lg (i + 1) l
  | i, some (.double _) :: l => decide (i ∈ lg) && ex_lok lg (i + 1) l
  | i, _ :: l => ex_lok lg (i + 1) l
def ex_eok (M : ex_M) (as : List Value) : Bool := decide ((ex_sl as).length ≤ M.2.2.2.1) && ex_lok M.2.2.2.2.2.2.1 0 (ex_sl as)
def ex_cl (P : Nat → ex_M) (E : ex_I) (st : List Value) (h : ex_H) : Option (Nat × List Value × List Value) :=
  let np := (P E.2.1).2.2.2.2.2.1
  let as := (st.take np).reverse
  if st.length < np ∨ ¬ ((st.drop np).map fun v => v.category).sum ≤ 8 ∨ ex_eok (P E.2.1) as = false then none else match E.1 with
  | .invokevirtual _ => if E.2.2.1 ≤ 1 ∧ ex_rcv E as h then some (E.2.1, as, st.drop np) else none
  | .invokestatic _ => if E.2.2.1 ≤ 1 then some (E.2.1, as, st.drop np) else none
  | .invokespecial _ => match as with
    | .ref _ :: _ => if E.2.2.1 ≤ 1 then some (E.2.1, as, st.drop np) else none
    | _ => none
  | _ => none
def ex_step (P : Nat → ex_M) (M : ex_M) (d pc : Nat) (L : ex_L) (st : List Value) (h : ex_H) : Option ex_R := match M.2.2.2.2.2.2.2 pc with
  | none => none
  | some E => match ex_op E.1 E.2.2.2 st with
    | some st' => some (.inl (pc + ex_len E.1, L, st', h))
    | none => match ex_lo M E L st with
      | some (L', st') => some (.inl (pc + ex_len E.1, L', st', h))
      | none => match ex_go pc E st with
        | some (pc', st') => some (.inl (pc', L, st', h))
        | none => match ex_hp d E st h with
          | some (st', h') => some (.inl (pc + ex_len E.1, L, st', h'))
          | none => match ex_rt M E st with
            | some v => some (.inr (.inl v))
            | none => match ex_cl P E st h with
              | some (k, as, st') => some (.inr (.inr (k, as, pc + 3, st')))
              | none => none
/-- fuel, depth of calls, method, place, locals, stack, heap -/
def ex_run (P : Nat → ex_M) : Nat → Nat → Nat → Nat → ex_L → List Value → ex_H → Option (Option Value × ex_H)
  | 0, _, _, _, _, _, _ => none
  | n + 1, d, k, pc, L, st, h => match ex_step P (P k) d pc L st h with
    | none => none
    | some (.inl (pc', L', st', h')) => ex_run P n d k pc' L' st' h'
    | some (.inr (.inl v)) => some (v, h)
    | some (.inr (.inr (k', as, pc', st'))) => match d with
      | 0 => none
      | d' + 1 => match ex_run P n d' k' 0 (ex_en (P k') as) [] h with
        | none => none
        | some (v, h') => ex_run P n (d' + 1) k pc' L (v.toList ++ st') h'
