/-! the small machine: cells and heap -/
abbrev fe_C : Type := (Nat × List Value) ⊕ ((Nat × (Nat → Int32)) ⊕ ((Nat × (Nat → Bool)) ⊕ ((Nat × (Nat → Int64)) ⊕ (Nat × (Nat → Option Nat)))))
abbrev fe_O (ci : Nat) (fs : List Value) : fe_C := .inl (ci, fs)
abbrev fe_I (n : Nat) (f : Nat → Int32) : fe_C := .inr (.inl (n, f))
abbrev fe_Z (n : Nat) (f : Nat → Bool) : fe_C := .inr (.inr (.inl (n, f)))
abbrev fe_J (n : Nat) (f : Nat → Int64) : fe_C := .inr (.inr (.inr (.inl (n, f))))
abbrev fe_Q (n : Nat) (f : Nat → Option Nat) : fe_C := .inr (.inr (.inr (.inr (n, f))))
/-- the next address, cells left, slots left, the cells -/
abbrev fe_H : Type := Nat × Nat × Nat × (Nat → Option fe_C)
def fe_get (h : fe_H) (a : Nat) : Option fe_C := h.2.2.2 a
def fe_put (h : fe_H) (a : Nat) (c : fe_C) : fe_H := (h.1, h.2.1, h.2.2.1, fun b => if b = a then some c else h.2.2.2 b)
def fe_add (h : fe_H) (n : Nat) (c : fe_C) : fe_H := (h.1 + 1, h.2.1 - 1, h.2.2.1 - n, fun b => if b = h.1 then some c else h.2.2.2 b)
def fe_burn (h : fe_H) (n : Nat) : fe_H := (h.1 + 1, h.2.1 - 1, h.2.2.1 - n, h.2.2.2)
/-- the script's address, length, ints; the address of the static row of longs -/
abbrev fe_E : Type := Nat × Nat × (Nat → Int32) × Nat
/-- returned a value, or threw: the exception's number, its address -/
abbrev fe_R : Type := Option Value ⊕ (Nat × Nat)
abbrev fe_Ls : Type := List (Option Value)
def fe_bi (b : Bool) : Int32 := if b then 1 else 0
def fe_tb (x : Int32) : Bool := decide (x &&& 1 = 1)
def fe_inb (i : Int32) (n : Nat) : Bool := decide (0 ≤ i) && decide (i.toNatClampNeg < n)
def fe_ub (f : Nat → Bool) (k : Nat) (x : Bool) : Nat → Bool := fun j => if j = k then x else f j
/-! what changes the frame alone -/
def fe_tgt (pc : Nat) (off : Int) : Nat := ((pc : Int) + off).toNat
def fe_okt (pc : Nat) (off : Int) : Bool := decide (0 ≤ (pc : Int) + off)
abbrev fe_P : Type := Option (Nat × fe_Ls × List Value)
def fe_ild (ls : fe_Ls) (k pc : Nat) (st : List Value) : fe_P := match ls[k]? with
  | some (some (.int x)) => some (pc, ls, .int x :: st)
  | _ => none
def fe_ald (ls : fe_Ls) (k pc : Nat) (st : List Value) : fe_P := match ls[k]? with
  | some (some (.ref x)) => some (pc, ls, .ref x :: st)
  | some (some .null) => some (pc, ls, .null :: st)
  | _ => none
def fe_ist (ls : fe_Ls) (k pc : Nat) (st : List Value) : fe_P := match st with
  | .int x :: r => if k < ls.length then some (pc, ls.set k (some (.int x)), r) else none
  | _ => none
def fe_ast (ls : fe_Ls) (k pc : Nat) (st : List Value) : fe_P := match st with
  | .ref x :: r => if k < ls.length then some (pc, ls.set k (some (.ref x)), r) else none
  | .null :: r => if k < ls.length then some (pc, ls.set k (some .null), r) else none
  | _ => none
def fe_inc (ls : fe_Ls) (k : Nat) (n : Int) (pc : Nat) (st : List Value) : fe_P := match ls[k]? with
  | some (some (.int x)) => some (pc, ls.set k (some (.int (x + Int32.ofInt n))), st)
  | _ => none
def fe_b2 (f : Int32 → Int32 → Int32) (pc : Nat) (ls : fe_Ls) (st : List Value) : fe_P := match st with
  | .int y :: .int x :: r => some (pc + 1, ls, .int (f x y) :: r)
  | _ => none
def fe_d2 (f : Int32 → Int32 → Int32) (pc : Nat) (ls : fe_Ls) (st : List Value) : fe_P := match st with
  | .int y :: .int x :: r => if y = 0 then none else some (pc + 1, ls, .int (f x y) :: r)
  | _ => none
def fe_l2 (f : Int64 → Int64 → Int64) (pc : Nat) (ls : fe_Ls) (st : List Value) : fe_P := match st with
  | .long y :: .long x :: r => some (pc + 1, ls, .long (f x y) :: r)
  | _ => none
def fe_s2 (f : Int64 → Int32 → Int64) (pc : Nat) (ls : fe_Ls) (st : List Value) : fe_P := match st with
  | .int y :: .long x :: r => some (pc + 1, ls, .long (f x y) :: r)
  | _ => none
def fe_br1 (t : Int32 → Bool) (pc : Nat) (off : Int) (ls : fe_Ls) (st : List Value) : fe_P := match st with
  | .int x :: r => if fe_okt pc off then some (if t x then fe_tgt pc off else pc + 3, ls, r) else none
  | _ => none
def fe_br2 (t : Int32 → Int32 → Bool) (pc : Nat) (off : Int) (ls : fe_Ls) (st : List Value) : fe_P := match st with
  | .int y :: .int x :: r => if fe_okt pc off then some (if t x y then fe_tgt pc off else pc + 3, ls, r) else none
  | _ => none
def fe_c1 (c : Jvm.ClassFile.Cond) (x : Int32) : Bool := match c with
  | .eq => decide (x = 0)
  | .ne => decide (¬ x = 0)
  | .lt => decide (x < 0)
  | .ge => decide (0 ≤ x)
  | .gt => decide (0 < x)
  | .le => decide (x ≤ 0)
def fe_c2 (c : Jvm.ClassFile.Cond) (x y : Int32) : Bool := match c with
  | .eq => decide (x = y)
  | .ne => decide (¬ x = y)
  | .lt => decide (x < y)
  | .ge => decide (y ≤ x)
  | .gt => decide (y < x)
  | .le => decide (x ≤ y)
def fe_sw (dflt lo hi : Int) (offs : Array Int) (pc : Nat) (ls : fe_Ls) (st : List Value) : fe_P := match st with
  | .int x :: r => if x.toInt < lo ∨ hi < x.toInt then (if fe_okt pc dflt then some (fe_tgt pc dflt, ls, r) else none) else match offs[(x.toInt - lo).toNat]? with
    | some off => if fe_okt pc off then some (fe_tgt pc off, ls, r) else none
    | none => none
  | _ => none
def fe_pstep (i : Instr) (pc : Nat) (ls : fe_Ls) (st : List Value) : fe_P := match i with
  | .iconst n => some (pc + 1, ls, .int (Int32.ofInt n) :: st)
  | .bipush n => some (pc + 2, ls, .int (Int8.ofInt n).toInt32 :: st)
  | .sipush n => some (pc + 3, ls, .int (Int16.ofInt n).toInt32 :: st)
  | .lconst n => some (pc + 1, ls, .long (Int64.ofNat (n : Nat)) :: st)
  | .iload k => fe_ild ls k (pc + 2) st
  | .iload_n k => fe_ild ls k (pc + 1) st
  | .aload k => fe_ald ls k (pc + 2) st
  | .aload_n k => fe_ald ls k (pc + 1) st
  | .istore k => fe_ist ls k (pc + 2) st
  | .istore_n k => fe_ist ls k (pc + 1) st
  | .astore k => fe_ast ls k (pc + 2) st
  | .astore_n k => fe_ast ls k (pc + 1) st
  | .iinc k n => fe_inc ls k n (pc + 3) st
  | .iadd => fe_b2 (fun x y => x + y) pc ls st
  | .isub => fe_b2 (fun x y => x - y) pc ls st
  | .imul => fe_b2 (fun x y => x * y) pc ls st
  | .iand => fe_b2 (fun x y => x &&& y) pc ls st
  | .ior => fe_b2 (fun x y => x ||| y) pc ls st
  | .ixor => fe_b2 (fun x y => x ^^^ y) pc ls st
  | .ishl => fe_b2 (fun x y => x <<< (y &&& 31)) pc ls st
  | .ishr => fe_b2 (fun x y => x >>> (y &&& 31)) pc ls st
  | .iushr => fe_b2 (fun x y => (x.toUInt32 >>> (y.toUInt32 &&& Int32.toUInt32 31)).toInt32) pc ls st
  | .idiv => fe_d2 (fun x y => x / y) pc ls st
  | .irem => fe_d2 (fun x y => x - x / y * y) pc ls st
  | .ineg => match st with
    | .int x :: r => some (pc + 1, ls, .int (-x) :: r)
    | _ => none
  | .land => fe_l2 (fun x y => x &&& y) pc ls st
  | .lor => fe_l2 (fun x y => x ||| y) pc ls st
  | .lshl => fe_s2 (fun x y => x <<< (y.toInt64 &&& 63)) pc ls st
  | .lshr => fe_s2 (fun x y => x >>> (y.toInt64 &&& 63)) pc ls st
  | .lcmp => match st with
    | .long y :: .long x :: r => some (pc + 1, ls, .int (lg_cmp x y) :: r)
    | _ => none
  | .i2l => match st with
    | .int x :: r => some (pc + 1, ls, .long x.toInt64 :: r)
    | _ => none
  | .dup => match st with
    | .int x :: r => some (pc + 1, ls, .int x :: .int x :: r)
    | .ref x :: r => some (pc + 1, ls, .ref x :: .ref x :: r)
    | _ => none
  | .pop => match st with
    | .int _ :: r => some (pc + 1, ls, r)
    | _ => none
  | .dup2 => match st with
    | .int y :: .ref x :: r => some (pc + 1, ls, .int y :: .ref x :: .int y :: .ref x :: r)
    | _ => none
  | .ifCond c off => fe_br1 (fe_c1 c) pc off ls st
  | .if_icmp c off => fe_br2 (fe_c2 c) pc off ls st
  | .goto off => if fe_okt pc off then some (fe_tgt pc off, ls, st) else none
  | .aconst_null => some (pc + 1, ls, .null :: st)
  | .ifnonnull off => match st with
    | .null :: r => some (pc + 3, ls, r)
    | .ref _ :: r => if fe_okt pc off then some (fe_tgt pc off, ls, r) else none
    | _ => none
  | .ifnull off => match st with
    | .null :: r => if fe_okt pc off then some (fe_tgt pc off, ls, r) else none
    | .ref _ :: r => some (pc + 3, ls, r)
    | _ => none
  | .tableswitch dflt lo hi offs => fe_sw dflt lo hi offs pc ls st
  | _ => none
/-- how long an instruction is -/
def fe_len (pc : Nat) (i : Instr) : Nat := match i with
  | .bipush _ | .iload _ | .aload _ | .istore _ | .astore _ | .ldc _ | .newarray _ => 2
  | .sipush _ | .iinc _ _ | .ifCond _ _ | .if_icmp _ _ | .goto _ | .ifnull _ | .ifnonnull _ | .getfield _ | .putfield _ | .getstatic _ | .invokevirtual _ | .invokestatic _ | .invokespecial _ | .new _ | .anewarray _ | .ldc_w _ => 3
  | .tableswitch _ _ _ offs => (4 - (pc + 1) % 4) % 4 + 13 + 4 * offs.size
  | _ => 1
