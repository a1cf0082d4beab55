/-! ===== the abstract machine: values with abstract addresses, frames as lists, a heap as a function ===== -/
/-- a cell: an array (its kind, its length and contents), or an object (its class, its fields) -/
abbrev am_C : Type := (Nat × vp_A) ⊕ (Nat × List Value)
/-- a heap: the cells, the next address, the slots made -/
abbrev am_H : Type := (Nat → Option am_C) × Nat × Nat
abbrev am_L : Type := List (Option Value)
/-- an instruction: itself, its length, three numbers -/
abbrev am_I : Type := Instr × Nat × Nat × Nat × Nat
/-- an end: returned, or thrown by its number -/
abbrev am_O : Type := Option Value ⊕ Nat
abbrev am_R : Type := Option (am_O × am_H)
/-- a program: the instructions of a method; the locals and the class of the receiver (0: any) of a method; its handlers; the fields of a new object -/
abbrev am_P : Type := (Nat → Nat → Option am_I) × (Nat → Nat × Nat) × (Nat → List (Nat × Nat × Nat × Nat × Nat × Nat)) × (Nat → List Value)
def am_set (h : am_H) (a : Nat) (e : am_C) : am_H := (fun q => if q = a then some e else h.1 q, h.2)
def am_new (h : am_H) (e : am_C) (n : Nat) : am_H := (fun q => if q = h.2.1 then some e else h.1 q, h.2.1 + 1, h.2.2 + n)
def am_up {α : Type} (f : Nat → α) (k : Nat) (v : α) : Nat → α := fun j => if j = k then v else f j
/-- locals -/
def am_kl : Option Value → Option Value
  | some (.long _) => none
  | some (.double _) => none
  | x => x
def am_ls1 : am_L → Nat → Value → am_L
  | [], _, _ => []
  | _ :: L, 0, v => some v :: L
  | [x], 1, _ => [am_kl x]
  | x :: _ :: L, 1, v => am_kl x :: some v :: L
  | x :: L, n + 2, v => x :: am_ls1 L (n + 1) v
def am_no : am_L → Nat → am_L
  | [], _ => []
  | _ :: L, 0 => none :: L
  | x :: L, n + 1 => x :: am_no L n
def am_lg : am_L → Nat → Option Value
  | [], _ => none
  | x :: _, 0 => x
  | _ :: L, n + 1 => am_lg L n
def am_sl (v : Value) : am_L := if v.category = 2 then [some v, none] else [some v]
def am_en (n : Nat) (args : List Value) : am_L := args.flatMap am_sl ++ List.replicate (n - (args.flatMap am_sl).length) none
/-- reads of the heap -/
def am_fd (h : am_H) (a ci k : Nat) : Option Value := match h.1 a with
  | some (.inr (c, fs)) => if c = ci then fs[k]? else none
  | _ => none
def am_in (i : Int32) (n : Nat) : Bool := decide (¬ i < 0) && decide (i.toNatClampNeg < n)
def am_ia (h : am_H) (a : Nat) (i : Int32) : Option Int32 := match h.1 a with
  | some (.inl (k, n, .inl f)) => if (k = 0 ∨ k = 10) ∧ am_in i n = true then some (f i.toNatClampNeg) else none
  | _ => none
def am_ba (h : am_H) (a : Nat) (i : Int32) : Option Int32 := match h.1 a with
  | some (.inl (k, n, .inl f)) => if (k = 1 ∨ k = 2 ∨ k = 11) ∧ am_in i n = true then some (f i.toNatClampNeg) else none
  | _ => none
def am_la (h : am_H) (a : Nat) (i : Int32) : Option Int64 := match h.1 a with
  | some (.inl (k, n, .inr (.inl f))) => if k = 3 ∧ am_in i n = true then some (f i.toNatClampNeg) else none
  | _ => none
def am_da (h : am_H) (a : Nat) (i : Int32) : Option UInt64 := match h.1 a with
  | some (.inl (k, n, .inr (.inr (.inr (.inl f))))) => if k = 4 ∧ am_in i n = true then some (f i.toNatClampNeg) else none
  | _ => none
def am_qa (h : am_H) (a : Nat) (i : Int32) : Option Nat := match h.1 a with
  | some (.inl (k, n, .inr (.inr (.inr (.inr f))))) => if (5 ≤ k ∧ k ≤ 9) ∧ am_in i n = true then f i.toNatClampNeg else none
  | _ => none
def am_al (h : am_H) (a : Nat) : Option Int32 := match h.1 a with
  | some (.inl (k, n, _)) => if k < 12 then some (nI n) else none
  | _ => none
/-- writes -/
def am_nb (x : Int32) : Int32 := x.toInt8.toInt32
def am_pf (h : am_H) (a ci k ty : Nat) (v : Value) : Option am_H := match h.1 a with
  | some (.inr (c, fs)) => if c = ci ∧ (ci < 50 ∨ (ci = 50 ∧ fs[0]? = some .null)) ∧ k < fs.length then
      match ty, v with
      | 0, .int x => some (am_set h a (.inr (c, fs.set k (.int x))))
      | 1, .long x => some (am_set h a (.inr (c, fs.set k (.long x))))
      | 2, .ref x => some (am_set h a (.inr (c, fs.set k (.ref x))))
      | 3, .int x => if x = 0 ∨ x = 1 then some (am_set h a (.inr (c, fs.set k (.int x)))) else none
      | 4, .int x => if am_nb x = x then some (am_set h a (.inr (c, fs.set k (.int x)))) else none
      | _, _ => none
    else none
  | _ => none
def am_is (h : am_H) (a : Nat) (i x : Int32) : Option am_H := match h.1 a with
  | some (.inl (k, n, .inl f)) => if k = 0 ∧ am_in i n = true then some (am_set h a (.inl (k, n, .inl (am_up f i.toNatClampNeg x)))) else none
  | _ => none
def am_bs (h : am_H) (a : Nat) (i x : Int32) : Option am_H := match h.1 a with
  | some (.inl (k, n, .inl f)) => if am_in i n = true then
      (if k = 1 then some (am_set h a (.inl (k, n, .inl (am_up f i.toNatClampNeg (am_nb x)))))
       else if k = 2 then some (am_set h a (.inl (k, n, .inl (am_up f i.toNatClampNeg (x &&& 1))))) else none) else none
  | _ => none
def am_js (h : am_H) (a : Nat) (i : Int32) (x : Int64) : Option am_H := match h.1 a with
  | some (.inl (k, n, .inr (.inl f))) => if k = 3 ∧ am_in i n = true then some (am_set h a (.inl (k, n, .inr (.inl (am_up f i.toNatClampNeg x))))) else none
  | _ => none
def am_ds (h : am_H) (a : Nat) (i : Int32) (x : UInt64) : Option am_H := match h.1 a with
  | some (.inl (k, n, .inr (.inr (.inr (.inl f))))) => if k = 4 ∧ am_in i n = true then some (am_set h a (.inl (k, n, .inr (.inr (.inr (.inl (am_up f i.toNatClampNeg x))))))) else none
  | _ => none
/-- the class that an array of references of a kind holds -/
def am_qc (k : Nat) : Nat := if k = 5 then 6 else if k = 6 then 9 else 50
def am_qs (h : am_H) (a : Nat) (i : Int32) (x : Nat) : Option am_H := match h.1 a, h.1 x with
  | some (.inl (k, n, .inr (.inr (.inr (.inr f))))), some (.inr (c, _)) => if (k = 5 ∨ k = 6 ∨ k = 7) ∧ c = am_qc k ∧ am_in i n = true then some (am_set h a (.inl (k, n, .inr (.inr (.inr (.inr (am_up f i.toNatClampNeg (some x)))))))) else none
  | _, _ => none
def am_na (h : am_H) (k : Nat) (n : Int32) : Option am_H :=
  if ¬ n < 0 ∧ n.toNatClampNeg ≤ 100000 then
    (if k ≤ 2 then some (am_new h (.inl (k, n.toNatClampNeg, .inl (fun _ => 0))) n.toNatClampNeg)
     else if k = 3 then some (am_new h (.inl (k, n.toNatClampNeg, .inr (.inl (fun _ => 0)))) n.toNatClampNeg)
     else if k = 4 then some (am_new h (.inl (k, n.toNatClampNeg, .inr (.inr (.inr (.inl (fun _ => 0)))))) n.toNatClampNeg)
     else if k = 5 ∨ k = 6 ∨ k = 7 then some (am_new h (.inl (k, n.toNatClampNeg, .inr (.inr (.inr (.inr (fun _ => none)))))) n.toNatClampNeg) else none)
  else none
/-- arraycopy of bytes -/
def am_ac (h : am_H) (a0 : Nat) (sp : Int32) (a : Nat) (dp n : Int32) : Option am_H := match h.1 a0, h.1 a with
  | some (.inl (k0, n0, .inl f)), some (.inl (k1, n1, .inl g)) =>
    if (k0 = 1 ∨ k0 = 11) ∧ k1 = 1 ∧ ¬ sp < 0 ∧ ¬ dp < 0 ∧ ¬ n < 0 ∧ sp.toNatClampNeg + n.toNatClampNeg ≤ n0 ∧ dp.toNatClampNeg + n.toNatClampNeg ≤ n1 ∧ a0 ≠ a then
      some (am_set h a (.inl (k1, n1, .inl (va_cpy f g sp.toNatClampNeg dp.toNatClampNeg n.toNatClampNeg)))) else none
  | _, _ => none
/-- rows of a row: the outer first, the inner behind it -/
def am_mn (h : am_H) (k : Nat) (n m : Int32) : Option am_H :=
  if (k = 8 ∨ k = 9) ∧ (¬ n < 0 ∧ n.toNatClampNeg ≤ 1000) ∧ (¬ m < 0 ∧ m.toNatClampNeg ≤ 1000) then
    some (fun q => if q = h.2.1 then some (.inl (k, n.toNatClampNeg, .inr (.inr (.inr (.inr (fun j => some (h.2.1 + 1 + j)))))))
      else if h.2.1 < q ∧ q < h.2.1 + 1 + n.toNatClampNeg then some (.inl (if k = 8 then 0 else 2, m.toNatClampNeg, .inl (fun _ => 0))) else h.1 q, h.2.1 + (1 + n.toNatClampNeg), h.2.2 + (n.toNatClampNeg + n.toNatClampNeg * m.toNatClampNeg))
  else none
/-- a copy of a row of bytes -/
def am_cn1 (h : am_H) (a : Nat) : Option am_H := match h.1 a with
  | some (.inl (k, n, .inl f)) => if k = 1 ∧ n ≤ 100000 then some (am_new h (.inl (1, n, .inl f)) n) else none
  | _ => none
/-- a row of bytes -/
def am_isb (h : am_H) (a : Nat) : Bool := match h.1 a with
  | some (.inl (k, _, .inl _)) => decide (k = 1)
  | _ => false
/-- a call's receiver is of a class -/
def am_rc (h : am_H) (c : Nat) (args : List Value) : Bool := match c, args with
  | 0, _ => true
  | c + 1, .ref a :: _ => (match h.1 a with
    | some (.inr (ci, _)) => decide (ci = c)
    | _ => false)
  | _, _ => false
/-! ===== one instruction that touches no heap ===== -/
/-- what a static field holds: an object, a number, null -/
def am_gz (x : Nat × Nat × Nat) : Value := match x.1 with
  | 0 => .ref x.2.1
  | 1 => .int (nI x.2.1)
  | _ => .null
def am_sw (pc : Nat) (d lo hi : Int) (os : Array Int) (x : Int32) : Nat :=
  if x.toInt < lo ∨ hi < x.toInt then ((pc : Int) + d).toNat else match os[(x.toInt - lo).toNat]? with
    | some o => ((pc : Int) + o).toNat
    | none => 0
def am_pu (pc : Nat) (i : Instr) (x : Nat × Nat × Nat) (ls : am_L) (st : List Value) : Option (Nat × am_L × List Value) :=
  match i, st with
  | .iconst n, r => some (pc + 1, ls, .int (Int32.ofInt n) :: r)
  | .bipush n, r => some (pc + 2, ls, .int (Int8.ofInt n).toInt32 :: r)
  | .sipush n, r => some (pc + 3, ls, .int (Int16.ofInt n).toInt32 :: r)
  | .lconst n, r => some (pc + 1, ls, .long (Int64.ofNat (n : Nat)) :: r)
  | .fconst n, r => if n = 0 then some (pc + 1, ls, .float FP.fconst0 :: r) else none
  | .ldc _, r => (match x.1 with
    | 0 => some (pc + 2, ls, .ref x.2.1 :: r)
    | _ => some (pc + 2, ls, .int (nI x.2.1) :: r))
  | .ldc_w _, r => (match x.1 with
    | 0 => some (pc + 3, ls, .ref x.2.1 :: r)
    | _ => some (pc + 3, ls, .int (nI x.2.1) :: r))
  | .getstatic _, r => some (pc + 3, ls, am_gz x :: r)
  | .iload_n k, r => (match am_lg ls k.val with
    | some (.int v) => some (pc + 1, ls, .int v :: r)
    | _ => none)
  | .iload k, r => (match am_lg ls k with
    | some (.int v) => some (pc + 2, ls, .int v :: r)
    | _ => none)
  | .lload_n k, r => (match am_lg ls k.val with
    | some (.long v) => some (pc + 1, ls, .long v :: r)
    | _ => none)
  | .lload k, r => (match am_lg ls k with
    | some (.long v) => some (pc + 2, ls, .long v :: r)
    | _ => none)
  | .fload_n k, r => (match am_lg ls k.val with
    | some (.float v) => some (pc + 1, ls, .float v :: r)
    | _ => none)
  | .fload k, r => (match am_lg ls k with
    | some (.float v) => some (pc + 2, ls, .float v :: r)
    | _ => none)
  | .aload_n k, r => (match am_lg ls k.val with
    | some (.ref v) => some (pc + 1, ls, .ref v :: r)
    | _ => none)
  | .aload k, r => (match am_lg ls k with
    | some (.ref v) => some (pc + 2, ls, .ref v :: r)
    | _ => none)
  | .istore_n k, .int v :: r => if k.val < ls.length then some (pc + 1, am_ls1 ls k.val (.int v), r) else none
  | .istore k, .int v :: r => if k < ls.length then some (pc + 2, am_ls1 ls k (.int v), r) else none
  | .fstore_n k, .float v :: r => if k.val < ls.length then some (pc + 1, am_ls1 ls k.val (.float v), r) else none
  | .fstore k, .float v :: r => if k < ls.length then some (pc + 2, am_ls1 ls k (.float v), r) else none
  | .astore_n k, .ref v :: r => if k.val < ls.length then some (pc + 1, am_ls1 ls k.val (.ref v), r) else none
  | .astore k, .ref v :: r => if k < ls.length then some (pc + 2, am_ls1 ls k (.ref v), r) else none
  | .lstore_n k, .long v :: r => if k.val + 1 < ls.length then some (pc + 1, am_no (am_ls1 ls k.val (.long v)) (k.val + 1), r) else none
  | .lstore k, .long v :: r => if k + 1 < ls.length then some (pc + 2, am_no (am_ls1 ls k (.long v)) (k + 1), r) else none
  | .iinc k n, r => (match am_lg ls k with
    | some (.int v) => if k < ls.length then some (pc + 3, am_ls1 ls k (.int (v + Int32.ofInt n)), r) else none
    | _ => none)
  | .iadd, .int b :: .int a :: r => some (pc + 1, ls, .int (a + b) :: r)
  | .isub, .int b :: .int a :: r => some (pc + 1, ls, .int (a - b) :: r)
  | .imul, .int b :: .int a :: r => some (pc + 1, ls, .int (a * b) :: r)
  | .iand, .int b :: .int a :: r => some (pc + 1, ls, .int (a &&& b) :: r)
  | .ior, .int b :: .int a :: r => some (pc + 1, ls, .int (a ||| b) :: r)
  | .ixor, .int b :: .int a :: r => some (pc + 1, ls, .int (a ^^^ b) :: r)
  | .ishl, .int b :: .int a :: r => some (pc + 1, ls, .int (a <<< (b &&& 31)) :: r)
  | .ishr, .int b :: .int a :: r => some (pc + 1, ls, .int (a >>> (b &&& 31)) :: r)
  | .iushr, .int b :: .int a :: r => some (pc + 1, ls, .int (a.toUInt32 >>> (b.toUInt32 &&& Int32.toUInt32 31)).toInt32 :: r)
  | .idiv, .int b :: .int a :: r => if b = 0 then none else some (pc + 1, ls, .int (a / b) :: r)
  | .irem, .int b :: .int a :: r => if b = 0 then none else some (pc + 1, ls, .int (a - a / b * b) :: r)
  | .ineg, .int a :: r => some (pc + 1, ls, .int (-a) :: r)
  | .i2l, .int a :: r => some (pc + 1, ls, .long a.toInt64 :: r)
  | .l2i, .long a :: r => some (pc + 1, ls, .int a.toInt32 :: r)
  | .i2b, .int a :: r => some (pc + 1, ls, .int (am_nb a) :: r)
  | .i2c, .int a :: r => some (pc + 1, ls, .int (a.toUInt32 % 65536).toInt32 :: r)
  | .i2f, .int a :: r => some (pc + 1, ls, .float (FP.i2f a) :: r)
  | .f2d, .float a :: r => if (FP.f2d a) &&& 0x7fffffffffffffff ≤ 0x7ff0000000000000 then some (pc + 1, ls, .double (FP.f2d a) :: r) else none
  | .fdiv, .float b :: .float a :: r => if (FP.fdiv a b) &&& 0x7fffffff ≤ 0x7f800000 then some (pc + 1, ls, .float (FP.fdiv a b) :: r) else none
  | .fcmp o, .float b :: .float a :: r => some (pc + 1, ls, .int (Op.cmpValue (FP.fcmp a b) o) :: r)
  | .dcmp o, .double b :: .double a :: r => some (pc + 1, ls, .int (Op.cmpValue (FP.dcmp a b) o) :: r)
  | .lor, .long b :: .long a :: r => some (pc + 1, ls, .long (a ||| b) :: r)
  | .lshl, .int b :: .long a :: r => some (pc + 1, ls, .long (a <<< (b.toInt64 &&& 63)) :: r)
  | .lshr, .int b :: .long a :: r => some (pc + 1, ls, .long (a >>> (b.toInt64 &&& 63)) :: r)
  | .lcmp, .long b :: .long a :: r => some (pc + 1, ls, .int (lg_cmp a b) :: r)
  | .dup, v :: r => if v.category = 1 then some (pc + 1, ls, v :: v :: r) else none
  | .pop, v :: r => if v.category = 1 then some (pc + 1, ls, r) else none
  | .dup_x1, v :: w :: r => if v.category = 1 ∧ w.category = 1 then some (pc + 1, ls, v :: w :: v :: r) else none
  | .dup2, v :: w :: r => if v.category = 1 ∧ w.category = 1 then some (pc + 1, ls, v :: w :: v :: w :: r) else none
  | .goto _, r => some (x.1, ls, r)
  | .ifCond .eq _, .int a :: r => some (if a = 0 then x.1 else pc + 3, ls, r)
  | .ifCond .ne _, .int a :: r => some (if ¬ a = 0 then x.1 else pc + 3, ls, r)
  | .ifCond .lt _, .int a :: r => some (if a < 0 then x.1 else pc + 3, ls, r)
  | .ifCond .ge _, .int a :: r => some (if 0 ≤ a then x.1 else pc + 3, ls, r)
  | .ifCond .gt _, .int a :: r => some (if 0 < a then x.1 else pc + 3, ls, r)
  | .ifCond .le _, .int a :: r => some (if a ≤ 0 then x.1 else pc + 3, ls, r)
  | .if_icmp .eq _, .int b :: .int a :: r => some (if a = b then x.1 else pc + 3, ls, r)
  | .if_icmp .ne _, .int b :: .int a :: r => some (if ¬ a = b then x.1 else pc + 3, ls, r)
  | .if_icmp .lt _, .int b :: .int a :: r => some (if a < b then x.1 else pc + 3, ls, r)
  | .if_icmp .ge _, .int b :: .int a :: r => some (if b ≤ a then x.1 else pc + 3, ls, r)
  | .if_icmp .gt _, .int b :: .int a :: r => some (if b < a then x.1 else pc + 3, ls, r)
  | .if_icmp .le _, .int b :: .int a :: r => some (if a ≤ b then x.1 else pc + 3, ls, r)
  | .if_acmp .eq _, .ref b :: .ref a :: r => if 200 ≤ a ∧ a < 206 ∧ 200 ≤ b ∧ b < 206 then some (if a = b then x.1 else pc + 3, ls, r) else none
  | .if_acmp .ne _, .ref b :: .ref a :: r => if 200 ≤ a ∧ a < 206 ∧ 200 ≤ b ∧ b < 206 then some (if ¬ a = b then x.1 else pc + 3, ls, r) else none
  | .ifnonnull _, .ref _ :: r => some (x.1, ls, r)
  | .ifnull _, .ref _ :: r => some (pc + 3, ls, r)
  | .tableswitch d lo hi os, .int a :: r => some (am_sw pc d lo hi os a, ls, r)
  | .aconst_null, r => some (pc + 1, ls, .null :: r)
  | _, _ => none
/-! ===== one instruction that touches the heap ===== -/
def am_he (df : Nat → List Value) (pc : Nat) (i : Instr) (x : Nat × Nat × Nat) (st : List Value) (h : am_H) : Option (Nat × List Value × am_H) :=
  match i, st with
  | .getfield _, .ref a :: r => (match x.2.2, am_fd h a x.1 x.2.1 with
    | 0, some (.int v) => some (pc + 3, .int v :: r, h)
    | 1, some (.long v) => some (pc + 3, .long v :: r, h)
    | 2, some (.ref v) => some (pc + 3, .ref v :: r, h)
    | _, _ => none)
  | .putfield _, v :: .ref a :: r => (am_pf h a x.1 x.2.1 x.2.2 v).map fun h' => (pc + 3, r, h')
  | .iaload, .int i :: .ref a :: r => (am_ia h a i).map fun v => (pc + 1, .int v :: r, h)
  | .baload, .int i :: .ref a :: r => (am_ba h a i).map fun v => (pc + 1, .int v :: r, h)
  | .laload, .int i :: .ref a :: r => (am_la h a i).map fun v => (pc + 1, .long v :: r, h)
  | .daload, .int i :: .ref a :: r => (am_da h a i).map fun v => (pc + 1, .double v :: r, h)
  | .aaload, .int i :: .ref a :: r => (am_qa h a i).map fun v => (pc + 1, .ref v :: r, h)
  | .iastore, .int v :: .int i :: .ref a :: r => (am_is h a i v).map fun h' => (pc + 1, r, h')
  | .bastore, .int v :: .int i :: .ref a :: r => (am_bs h a i v).map fun h' => (pc + 1, r, h')
  | .lastore, .long v :: .int i :: .ref a :: r => (am_js h a i v).map fun h' => (pc + 1, r, h')
  | .dastore, .double v :: .int i :: .ref a :: r => (am_ds h a i v).map fun h' => (pc + 1, r, h')
  | .aastore, .ref v :: .int i :: .ref a :: r => (am_qs h a i v).map fun h' => (pc + 1, r, h')
  | .arraylength, .ref a :: r => (am_al h a).map fun v => (pc + 1, .int v :: r, h)
  | .new _, r => some (pc + 3, .ref h.2.1 :: r, am_new h (.inr (x.1, df x.1)) x.2.1)
  | .newarray _, .int n :: r => if x.1 ≤ 4 then (am_na h x.1 n).map fun h' => (pc + 2, .ref h.2.1 :: r, h') else none
  | .anewarray _, .int n :: r => if x.1 = 5 ∨ x.1 = 6 ∨ x.1 = 7 then (am_na h x.1 n).map fun h' => (pc + 3, .ref h.2.1 :: r, h') else none
  | .invokespecial _, .ref _ :: r => if r.length ≤ 4 then some (pc + 3, r, h) else none
  | .multianewarray _ 2, .int n2 :: .int n1 :: r => (am_mn h x.1 n1 n2).map fun h' => (pc + 4, .ref h.2.1 :: r, h')
  | .invokevirtual _, .ref a :: r => if r.length ≤ 4 then (am_cn1 h a).map fun h' => (pc + 3, .ref h.2.1 :: r, h') else none
  | .checkcast _, .ref a :: r => if am_isb h a = true then some (pc + 3, .ref a :: r, h) else none
  | .invokestatic _, .int n :: .int dp :: .ref a :: .int sp :: .ref a0 :: r => if r.length ≤ 4 then (am_ac h a0 sp a dp n).map fun h' => (pc + 3, r, h') else none
  | _, _ => none
def am_re (i : Instr) (x : Nat × Nat × Nat) (st : List Value) : Option (Option Value) :=
  match i, st with
  | .return_, [] => some none
  | .ireturn, [.int v] => (match x.1 with
    | 0 => some (some (.int v))
    | 1 => some (some (.int (v &&& 1)))
    | 2 => some (some (.int v.toUInt32.toUInt16.toUInt32.toInt32))
    | 3 => some (some (.int (am_nb v)))
    | _ => none)
  | .lreturn, [.long v] => some (some (.long v))
  | .freturn, [.float v] => some (some (.float v))
  | .areturn, [.ref v] => some (some (.ref v))
  | _, _ => none
/-- 0: no heap, 1: heap, 2: a call, 3: an end, 4: a throw -/
def am_kd (i : Instr) (x : Nat × Nat × Nat) : Nat := match i with
  | .getfield _ => 1
  | .putfield _ => 1
  | .iaload => 1
  | .baload => 1
  | .laload => 1
  | .daload => 1
  | .aaload => 1
  | .iastore => 1
  | .bastore => 1
  | .lastore => 1
  | .dastore => 1
  | .aastore => 1
  | .arraylength => 1
  | .newarray _ => 1
  | .anewarray _ => 1
  | .multianewarray _ _ => 1
  | .checkcast _ => 1
  | .new _ => if x.2.2 = 1 then 4 else 1
  | .invokevirtual _ => if x.1 = 999997 then 1 else 2
  | .invokestatic _ => if x.1 = 999999 then 1 else 2
  | .invokespecial _ => if x.1 = 999998 then 1 else 2
  | .return_ => 3
  | .ireturn => 3
  | .lreturn => 3
  | .freturn => 3
  | .areturn => 3
  | _ => 0
/-- what a call's answer puts on the stack: 0 nothing, 1 an int, 2 a long, 3 a reference, 4 a float -/
def am_ps (c : Nat) (v : Option Value) : Option (List Value) := match c, v with
  | 0, none => some []
  | 1, some (.int v) => some [.int v]
  | 2, some (.long v) => some [.long v]
  | 3, some (.ref v) => some [.ref v]
  | 4, some (.float v) => some [.float v]
  | _, _ => none
/-- the handler: where it goes on, and the local that the thrown object goes to -/
def am_hf : List (Nat × Nat × Nat × Nat × Nat × Nat) → Nat → Nat → Option (Nat × Nat)
  | [], _, _ => none
  | (s, t, _, e, p, k) :: r, pc, E => if s ≤ pc ∧ pc < t ∧ e = E then some (p, k) else am_hf r pc E
def am_hn (l : List (Nat × Nat × Nat × Nat × Nat × Nat)) (pc E : Nat) : Option (Option (Nat × Nat)) := match l with
  | [] => some none
  | x :: r => (am_hf (x :: r) pc E).map some
/-- what a frame does behind a call -/
def am_be (P : am_P) (K : Nat → am_L → List Value → am_H → am_R) (j pc c : Nat) (ls : am_L) (r : List Value) : am_R → am_R
  | none => none
  | some (.inl v, h') => (match am_ps c v with
    | some vs => K (pc + 3) ls (vs ++ r) h'
    | none => none)
  | some (.inr E, h') => (match am_hn (P.2.2.1 j) pc E with
    | some (some (p, k)) => K p (am_no (am_ls1 ls k .null) k) [] h'
    | some none => some (.inr E, h')
    | none => none)
/-- a method, called -/
def am_ca (P : am_P) (E : Nat → am_L → am_H → am_R) (t : Nat) (args : List Value) (h : am_H) : am_R :=
  if am_rc h (P.2.1 t).2 args = true ∧ (args.flatMap am_sl).length ≤ (P.2.1 t).1 then E t (am_en (P.2.1 t).1 args) h else none
/-- the words of a stack -/
def am_cs : List Value → Nat
  | [] => 0
  | v :: r => v.category + am_cs r
def am_st (P : am_P) (K : Nat → am_L → List Value → am_H → am_R) (E : Nat → am_L → am_H → am_R) (j pc : Nat) (ls : am_L) (st : List Value) (h : am_H) : am_R :=
  match P.1 j pc with
  | none => none
  | some (i, _, x) => match am_kd i x with
    | 0 => (match am_pu pc i x ls st with
      | none => none
      | some (pc', ls', st') => K pc' ls' st' h)
    | 1 => (match am_he P.2.2.2 pc i x st h with
      | none => none
      | some (pc', st', h') => K pc' ls st' h')
    | 2 => if x.2.1 ≤ st.length ∧ am_cs (st.drop x.2.1) ≤ 8 then am_be P K j pc x.2.2 ls (st.drop x.2.1) (am_ca P E x.1 (st.take x.2.1).reverse h) else none
    | 3 => (am_re i x st).map fun v => (.inl v, h)
    | _ => if st.length ≤ 4 then some (.inr x.1, (h.1, h.2.1 + 1, h.2.2 + 6)) else none
def am_run (P : am_P) : Nat → Nat → Nat → am_L → List Value → am_H → am_R
  | 0, _, _, _, _, _ => none
  | n + 1, j, pc, ls, st, h => am_st P (am_run P n j) (fun t ls h => am_run P n t 0 ls [] h) j pc ls st h
/-- more of the continuation, more of the whole -/
theorem am_be_mono {P : am_P} {K K' : Nat → am_L → List Value → am_H → am_R} (hK : ∀ pc ls st h o, K pc ls st h = some o → K' pc ls st h = some o) {j pc c : Nat} {ls : am_L} {r : List Value} {z z' : am_R} {o : am_O × am_H} (hz : ∀ o, z = some o → z' = some o) (hs : am_be P K j pc c ls r z = some o) : am_be P K' j pc c ls r z' = some o := by
  cases z with
  | none => cases hs
  | some z =>
    rw [hz z rfl]
    obtain ⟨v | e, h'⟩ := z
    · change (match am_ps c v with | some vs => K (pc + 3) ls (vs ++ r) h' | none => none) = some o at hs
      show (match am_ps c v with | some vs => K' (pc + 3) ls (vs ++ r) h' | none => none) = some o
      cases hp : am_ps c v with
      | none => rw [hp] at hs; cases hs
      | some vs => rw [hp] at hs; exact hK _ _ _ _ _ hs
    · change (match am_hn (P.2.2.1 j) pc e with | some (some (p, k)) => K p (am_no (am_ls1 ls k .null) k) [] h' | some none => some (.inr e, h') | none => none) = some o at hs
      show (match am_hn (P.2.2.1 j) pc e with | some (some (p, k)) => K' p (am_no (am_ls1 ls k .null) k) [] h' | some none => some (.inr e, h') | none => none) = some o
      cases hp : am_hn (P.2.2.1 j) pc e with
      | none => rw [hp] at hs; cases hs
      | some y => cases y with
        | none => rw [hp] at hs; exact hs
        | some vs => rw [hp] at hs; exact hK _ _ _ _ _ hs
theorem am_ca_mono {P : am_P} {E E' : Nat → am_L → am_H → am_R} (hE : ∀ t ls h o, E t ls h = some o → E' t ls h = some o) {t : Nat} {args : List Value} {h : am_H} {o : am_O × am_H} (hs : am_ca P E t args h = some o) : am_ca P E' t args h = some o := by
  unfold am_ca at hs ⊢
  by_cases hc : am_rc h (P.2.1 t).2 args = true ∧ (args.flatMap am_sl).length ≤ (P.2.1 t).1
  · rw [if_pos hc] at hs ⊢
    exact hE _ _ _ _ hs
  · rw [if_neg hc] at hs
    cases hs
/-- the four ways of a step -/
theorem am_st_elim {P : am_P} {K : Nat → am_L → List Value → am_H → am_R} {E : Nat → am_L → am_H → am_R} {j pc : Nat} {ls : am_L} {st : List Value} {h : am_H} {o : am_O × am_H} (hs : am_st P K E j pc ls st h = some o) :
    ∃ (i : Instr) (len : Nat) (x : Nat × Nat × Nat), P.1 j pc = some (i, len, x) ∧
      ((am_kd i x = 0 ∧ ∃ pc' ls' st', am_pu pc i x ls st = some (pc', ls', st') ∧ K pc' ls' st' h = some o) ∨
       (am_kd i x = 1 ∧ ∃ pc' st' h', am_he P.2.2.2 pc i x st h = some (pc', st', h') ∧ K pc' ls st' h' = some o) ∨
       (am_kd i x = 2 ∧ (x.2.1 ≤ st.length ∧ am_cs (st.drop x.2.1) ≤ 8) ∧ am_be P K j pc x.2.2 ls (st.drop x.2.1) (am_ca P E x.1 (st.take x.2.1).reverse h) = some o) ∨
       (am_kd i x = 3 ∧ ∃ v, am_re i x st = some v ∧ o = (.inl v, h)) ∨
       (am_kd i x = 4 ∧ st.length ≤ 4 ∧ o = (.inr x.1, (h.1, h.2.1 + 1, h.2.2 + 6)))) := by
  cases hf : P.1 j pc with
  | none => rw [am_st, hf] at hs; cases hs
  | some q =>
    obtain ⟨i, len, x⟩ := q
    refine ⟨i, len, x, rfl, ?_⟩
    rw [am_st, hf] at hs
    dsimp only at hs
    match hk : am_kd i x with
    | 0 =>
      rw [hk] at hs
      try dsimp only at hs
      cases hp : am_pu pc i x ls st with
      | none => rw [hp] at hs; cases hs
      | some q => rw [hp] at hs; exact Or.inl ⟨rfl, q.1, q.2.1, q.2.2, rfl, hs⟩
    | 1 =>
      rw [hk] at hs
      try dsimp only at hs
      cases hp : am_he P.2.2.2 pc i x st h with
      | none => rw [hp] at hs; cases hs
      | some q => rw [hp] at hs; exact Or.inr (Or.inl ⟨rfl, q.1, q.2.1, q.2.2, rfl, hs⟩)
    | 2 =>
      rw [hk] at hs
      try dsimp only at hs
      by_cases hc : x.2.1 ≤ st.length ∧ am_cs (st.drop x.2.1) ≤ 8
      · rw [if_pos hc] at hs
        exact Or.inr (Or.inr (Or.inl ⟨rfl, hc, hs⟩))
      · rw [if_neg hc] at hs; cases hs
    | 3 =>
      rw [hk] at hs
      try dsimp only at hs
      cases hp : am_re i x st with
      | none => rw [hp] at hs; cases hs
      | some v => rw [hp] at hs; exact Or.inr (Or.inr (Or.inr (Or.inl ⟨rfl, v, rfl, (Option.some.inj hs).symm⟩)))
    | n + 4 =>
      have hk4 : n = 0 := by
        have : am_kd i x ≤ 4 := by unfold am_kd; split <;> (try split) <;> omega
        omega
      subst hk4
      rw [hk] at hs
      try dsimp only at hs
      by_cases hc : st.length ≤ 4
      · rw [if_pos hc] at hs
        exact Or.inr (Or.inr (Or.inr (Or.inr ⟨rfl, hc, (Option.some.inj hs).symm⟩)))
      · rw [if_neg hc] at hs; cases hs
theorem am_st_pu {P : am_P} {K : Nat → am_L → List Value → am_H → am_R} {E : Nat → am_L → am_H → am_R} {j pc : Nat} {ls : am_L} {st : List Value} {h : am_H} {i : Instr} {len : Nat} {x : Nat × Nat × Nat} {pc' : Nat} {ls' : am_L} {st' : List Value} (hf : P.1 j pc = some (i, len, x)) (hk : am_kd i x = 0) (hp : am_pu pc i x ls st = some (pc', ls', st')) : am_st P K E j pc ls st h = K pc' ls' st' h := by
  simp only [am_st, hf, hk, hp]
theorem am_st_he {P : am_P} {K : Nat → am_L → List Value → am_H → am_R} {E : Nat → am_L → am_H → am_R} {j pc : Nat} {ls : am_L} {st : List Value} {h : am_H} {i : Instr} {len : Nat} {x : Nat × Nat × Nat} (hf : P.1 j pc = some (i, len, x)) (hk : am_kd i x = 1) : am_st P K E j pc ls st h = match am_he P.2.2.2 pc i x st h with | none => none | some (pc', st', h') => K pc' ls st' h' := by
  simp only [am_st, hf, hk]
theorem am_st_ca {P : am_P} {K : Nat → am_L → List Value → am_H → am_R} {E : Nat → am_L → am_H → am_R} {j pc : Nat} {ls : am_L} {st : List Value} {h : am_H} {i : Instr} {len : Nat} {x : Nat × Nat × Nat} (hf : P.1 j pc = some (i, len, x)) (hk : am_kd i x = 2) (hc : x.2.1 ≤ st.length ∧ am_cs (st.drop x.2.1) ≤ 8) : am_st P K E j pc ls st h = am_be P K j pc x.2.2 ls (st.drop x.2.1) (am_ca P E x.1 (st.take x.2.1).reverse h) := by
  simp only [am_st, hf, hk, if_pos hc]
theorem am_st_re {P : am_P} {K : Nat → am_L → List Value → am_H → am_R} {E : Nat → am_L → am_H → am_R} {j pc : Nat} {ls : am_L} {st : List Value} {h : am_H} {i : Instr} {len : Nat} {x : Nat × Nat × Nat} {v : Option Value} (hf : P.1 j pc = some (i, len, x)) (hk : am_kd i x = 3) (hr : am_re i x st = some v) : am_st P K E j pc ls st h = some (.inl v, h) := by
  simp only [am_st, hf, hk, hr, Option.map_some]
theorem am_st_th {P : am_P} {K : Nat → am_L → List Value → am_H → am_R} {E : Nat → am_L → am_H → am_R} {j pc : Nat} {ls : am_L} {st : List Value} {h : am_H} {i : Instr} {len : Nat} {x : Nat × Nat × Nat} (hf : P.1 j pc = some (i, len, x)) (hk : am_kd i x = 4) (hc : st.length ≤ 4) : am_st P K E j pc ls st h = some (.inr x.1, (h.1, h.2.1 + 1, h.2.2 + 6)) := by
  simp only [am_st, hf, hk, if_pos hc]
theorem am_mono_st {P : am_P} {K K' : Nat → am_L → List Value → am_H → am_R} {E E' : Nat → am_L → am_H → am_R} (hK : ∀ pc ls st h o, K pc ls st h = some o → K' pc ls st h = some o) (hE : ∀ t ls h o, E t ls h = some o → E' t ls h = some o) {j pc : Nat} {ls : am_L} {st : List Value} {h : am_H} {o : am_O × am_H} (hs : am_st P K E j pc ls st h = some o) : am_st P K' E' j pc ls st h = some o := by
  obtain ⟨i, len, x, hf, ⟨hk, pc', ls', st', hp, h1⟩ | ⟨hk, pc', st', h', hp, h1⟩ | ⟨hk, hc, h1⟩ | ⟨hk, v, hr, rfl⟩ | ⟨hk, hc, rfl⟩⟩ := am_st_elim hs
  · rw [am_st_pu hf hk hp]; exact hK _ _ _ _ _ h1
  · rw [am_st_he hf hk, hp]; exact hK _ _ _ _ _ h1
  · rw [am_st_ca hf hk hc]; exact am_be_mono hK (fun o ho => am_ca_mono hE ho) h1
  · rw [am_st_re hf hk hr]
  · rw [am_st_th hf hk hc]
theorem am_mono1 {P : am_P} : ∀ (n j pc : Nat) (ls : am_L) (st : List Value) (h : am_H) (o : am_O × am_H), am_run P n j pc ls st h = some o → am_run P (n + 1) j pc ls st h = some o := by
  intro n
  induction n with
  | zero => intro j pc ls st h o hh; cases hh
  | succ n ih =>
    intro j pc ls st h o hh
    exact am_mono_st (fun _ _ _ _ _ => ih _ _ _ _ _ _) (fun _ _ _ _ => ih _ _ _ _ _ _) hh
theorem am_mono {P : am_P} {n m : Nat} (hnm : n ≤ m) {j pc : Nat} {ls : am_L} {st : List Value} {h : am_H} {o : am_O × am_H} (hh : am_run P n j pc ls st h = some o) : am_run P m j pc ls st h = some o := by
  induction hnm with
  | refl => exact hh
  | step _ ih => exact am_mono1 _ _ _ _ _ _ _ ih
/-- the run, with fuel enough -/
noncomputable def am_ru (P : am_P) (j pc : Nat) (ls : am_L) (st : List Value) (h : am_H) : am_R :=
  @dite am_R (∃ o n, am_run P n j pc ls st h = some o) (Classical.propDecidable _) (fun hh => some (Classical.choose hh)) (fun _ => none)
theorem am_ru_iff {P : am_P} {j pc : Nat} {ls : am_L} {st : List Value} {h : am_H} {o : am_O × am_H} : am_ru P j pc ls st h = some o ↔ ∃ n, am_run P n j pc ls st h = some o := by
  unfold am_ru
  constructor
  · intro hh
    split at hh
    · rename_i he
      rw [← Option.some.inj hh]
      exact Classical.choose_spec he
    · cases hh
  · rintro ⟨n, hn⟩
    have he : ∃ o n, am_run P n j pc ls st h = some o := ⟨o, n, hn⟩
    rw [dif_pos he]
    obtain ⟨m, hm⟩ := Classical.choose_spec he
    have h1 := am_mono (Nat.le_max_left n m) hn
    have h2 := am_mono (Nat.le_max_right n m) hm
    exact h2.symm.trans h1
theorem am_be_cont {P : am_P} {j pc c : Nat} {ls : am_L} {r : List Value} {z : am_R} {o : am_O × am_H} (hs : am_be P (am_ru P j) j pc c ls r z = some o) : ∃ n, am_be P (am_run P n j) j pc c ls r z = some o := by
  cases z with
  | none => cases hs
  | some z =>
    obtain ⟨v | e, h'⟩ := z
    · change (match am_ps c v with | some vs => am_ru P j (pc + 3) ls (vs ++ r) h' | none => none) = some o at hs
      show ∃ n, (match am_ps c v with | some vs => am_run P n j (pc + 3) ls (vs ++ r) h' | none => none) = some o
      cases hp : am_ps c v with
      | none => rw [hp] at hs; cases hs
      | some vs => rw [hp] at hs; exact am_ru_iff.mp hs
    · change (match am_hn (P.2.2.1 j) pc e with | some (some (p, k)) => am_ru P j p (am_no (am_ls1 ls k .null) k) [] h' | some none => some (.inr e, h') | none => none) = some o at hs
      show ∃ n, (match am_hn (P.2.2.1 j) pc e with | some (some (p, k)) => am_run P n j p (am_no (am_ls1 ls k .null) k) [] h' | some none => some (.inr e, h') | none => none) = some o
      cases hp : am_hn (P.2.2.1 j) pc e with
      | none => rw [hp] at hs; cases hs
      | some y => cases y with
        | none => rw [hp] at hs; exact ⟨0, hs⟩
        | some vs => rw [hp] at hs; exact am_ru_iff.mp hs
theorem am_cont_st {P : am_P} {j pc : Nat} {ls : am_L} {st : List Value} {h : am_H} {o : am_O × am_H} (hs : am_st P (am_ru P j) (fun t ls h => am_ru P t 0 ls [] h) j pc ls st h = some o) : ∃ n, am_run P n j pc ls st h = some o := by
  have key : ∃ n, am_st P (am_run P n j) (fun t ls h => am_run P n t 0 ls [] h) j pc ls st h = some o := by
    obtain ⟨i, len, x, hf, ⟨hk, pc', ls', st', hp, h1⟩ | ⟨hk, pc', st', h', hp, h1⟩ | ⟨hk, hc, h1⟩ | ⟨hk, v, hr, rfl⟩ | ⟨hk, hc, rfl⟩⟩ := am_st_elim hs
    · obtain ⟨n, hn⟩ := am_ru_iff.mp h1
      exact ⟨n, by rw [am_st_pu hf hk hp]; exact hn⟩
    · obtain ⟨n, hn⟩ := am_ru_iff.mp h1
      exact ⟨n, by rw [am_st_he hf hk, hp]; exact hn⟩
    · obtain ⟨n1, hn1⟩ := am_be_cont h1
      have h2 : ∃ n0, ∀ o, am_ca P (fun t ls h => am_ru P t 0 ls [] h) x.1 (st.take x.2.1).reverse h = some o → am_ca P (fun t ls h => am_run P n0 t 0 ls [] h) x.1 (st.take x.2.1).reverse h = some o := by
        unfold am_ca
        by_cases hc : am_rc h (P.2.1 x.1).2 (st.take x.2.1).reverse = true ∧ ((st.take x.2.1).reverse.flatMap am_sl).length ≤ (P.2.1 x.1).1
        · simp only [if_pos hc]
          cases hz : am_ru P x.1 0 (am_en (P.2.1 x.1).1 (st.take x.2.1).reverse) [] h with
          | none => exact ⟨0, fun o ho => by cases ho⟩
          | some z =>
            obtain ⟨n, hn⟩ := am_ru_iff.mp hz
            exact ⟨n, fun o ho => by rw [← ho]; exact hn⟩
        · exact ⟨0, fun o ho => by rw [if_neg hc] at ho; cases ho⟩
      obtain ⟨n0, hn0⟩ := h2
      refine ⟨max n0 n1, ?_⟩
      rw [am_st_ca hf hk hc]
      exact am_be_mono (fun _ _ _ _ _ => am_mono (Nat.le_max_right n0 n1)) (fun o ho => am_ca_mono (fun _ _ _ _ => am_mono (Nat.le_max_left n0 n1)) (hn0 o ho)) hn1
    · exact ⟨0, am_st_re hf hk hr⟩
    · exact ⟨0, am_st_th hf hk hc⟩
  obtain ⟨n, hn⟩ := key
  exact ⟨n + 1, hn⟩
theorem am_ru_eq (P : am_P) (j pc : Nat) (ls : am_L) (st : List Value) (h : am_H) : am_ru P j pc ls st h = am_st P (am_ru P j) (fun t ls h => am_ru P t 0 ls [] h) j pc ls st h := by
  cases hz : am_st P (am_ru P j) (fun t ls h => am_ru P t 0 ls [] h) j pc ls st h with
  | some o => exact am_ru_iff.mpr (am_cont_st hz)
  | none =>
    cases hr : am_ru P j pc ls st h with
    | none => rfl
    | some o =>
      obtain ⟨n, hn⟩ := am_ru_iff.mp hr
      cases n with
      | zero => cases hn
      | succ n =>
        have h2 := am_mono_st (K' := am_ru P j) (E' := fun t ls h => am_ru P t 0 ls [] h) (fun _ _ _ _ _ q => am_ru_iff.mpr ⟨n, q⟩) (fun _ _ _ _ q => am_ru_iff.mpr ⟨n, q⟩) hn
        rw [hz] at h2
        cases h2
/-- a call of a method, from outside -/
noncomputable def am_ev (P : am_P) (t : Nat) (args : List Value) (h : am_H) : am_R := am_ca P (fun t ls h => am_ru P t 0 ls [] h) t args h
