/-! An interpreter of my own for the part of the machine that this program uses: what a method computes, as a function. -/
abbrev Lc : Type := List (Option Value)
/-- the heap: ints, longs, references, doubles by address and place; class and length by address; the next address; slots made -/
abbrev Hp : Type := (Nat → Nat → Int32) × (Nat → Nat → Int64) × (Nat → Nat → Nat) × (Nat → Nat → UInt64) × (Nat → Nat × Nat) × Nat × Nat
/-- how a call ends: with a value or none, or with what is thrown -/
abbrev Rs : Type := Option Value ⊕ Nat
/-- a method: its class, name, code, how many locals, what it returns, is it a constructor, its handlers -/
abbrev Mr : Type := Nat × MethodName × ByteArray × Nat × Option FieldType × Bool × List (Nat × Nat × Nat × Nat)
def mC (m : Mr) : Nat := m.1
def mY (m : Mr) : MethodName := m.2.1
def mB (m : Mr) : ByteArray := m.2.2.1
def mL (m : Mr) : Nat := m.2.2.2.1
def mR (m : Mr) : Option FieldType := m.2.2.2.2.1
def mI (m : Mr) : Bool := m.2.2.2.2.2.1
def mH (m : Mr) : List (Nat × Nat × Nat × Nat) := m.2.2.2.2.2.2
def hI (h : Hp) (a j : Nat) : Int32 := h.1 a j
def hL (h : Hp) (a j : Nat) : Int64 := h.2.1 a j
def hR (h : Hp) (a j : Nat) : Nat := h.2.2.1 a j
def hD (h : Hp) (a j : Nat) : UInt64 := h.2.2.2.1 a j
def hS (h : Hp) (a : Nat) : Nat × Nat := h.2.2.2.2.1 a
def hN (h : Hp) : Nat := h.2.2.2.2.2.1
def hU (h : Hp) : Nat := h.2.2.2.2.2.2
def up2 {α : Type} (f : Nat → Nat → α) (a j : Nat) (v : α) : Nat → Nat → α := fun b k => if b = a ∧ k = j then v else f b k
def sI (h : Hp) (a j : Nat) (v : Int32) : Hp := (up2 h.1 a j v, h.2)
def sL (h : Hp) (a j : Nat) (v : Int64) : Hp := (h.1, up2 h.2.1 a j v, h.2.2)
def sR (h : Hp) (a j : Nat) (v : Nat) : Hp := (h.1, h.2.1, up2 h.2.2.1 a j v, h.2.2.2)
def sD (h : Hp) (a j : Nat) (v : UInt64) : Hp := (h.1, h.2.1, h.2.2.1, up2 h.2.2.2.1 a j v, h.2.2.2.2)
def clr {α : Type} (f : Nat → Nat → α) (a : Nat) (v : α) : Nat → Nat → α := fun b k => if b = a then v else f b k
/-- a new cell of class k, length len, that takes n slots -/
def hNew (h : Hp) (k len n : Nat) : Hp := (clr h.1 (hN h) 0, clr h.2.1 (hN h) 0, clr h.2.2.1 (hN h) 0, clr h.2.2.2.1 (hN h) 0, (fun b => if b = hN h then (k, len) else h.2.2.2.2.1 b), hN h + 1, hU h + n)
/-- copying within the ints (longs): n places from place i of a to place j of b -/
def cpy {α : Type} (f : Nat → Nat → α) (a i b j n : Nat) : Nat → Nat → α := fun c k => if c = b ∧ j ≤ k ∧ k < j + n then f a (i + (k - j)) else f c k
def cI (h : Hp) (a i b j n : Nat) : Hp := (cpy h.1 a i b j n, h.2)
def cL (h : Hp) (a i b j n : Nat) : Hp := (h.1, cpy h.2.1 a i b j n, h.2.2)
def capN : Nat := 601000
def capU : Nat := 7293000
/-! locals -/
def is2 (o : Option Value) : Bool := match o with | some (.long _) => true | some (.double _) => true | _ => false
/-- the slot before a store: a long that it cut in two is gone -/
def cut2 (l : Lc) (i : Nat) : Lc := match i with | 0 => l | k + 1 => if is2 (l.getD k none) then l.set k none else l
def st1 (l : Lc) (i : Nat) (v : Value) : Lc := (cut2 l i).set i (some v)
def st2 (l : Lc) (i : Nat) (v : Value) : Lc := ((cut2 l i).set i (some v)).set (i + 1) none
abbrev Nx : Type := Nat × Lc × List Value
def ldI (l : Lc) (i pc : Nat) (st : List Value) : Option Nx := match l[i]? with | some (some (.int x)) => some (pc, l, .int x :: st) | _ => none
def ldL (l : Lc) (i pc : Nat) (st : List Value) : Option Nx := match l[i]? with | some (some (.long x)) => some (pc, l, .long x :: st) | _ => none
def ldD (l : Lc) (i pc : Nat) (st : List Value) : Option Nx := match l[i]? with | some (some (.double x)) => some (pc, l, .double x :: st) | _ => none
def ldA (l : Lc) (i pc : Nat) (st : List Value) : Option Nx := match l[i]? with | some (some (.ref x)) => some (pc, l, .ref x :: st) | _ => none
def tI (l : Lc) (i pc : Nat) (st : List Value) : Option Nx := match st with | .int x :: r => if i < l.length then some (pc, st1 l i (.int x), r) else none | _ => none
def tA (l : Lc) (i pc : Nat) (st : List Value) : Option Nx := match st with | .ref x :: r => if i < l.length then some (pc, st1 l i (.ref x), r) else none | _ => none
def tL (l : Lc) (i pc : Nat) (st : List Value) : Option Nx := match st with | .long x :: r => if i + 1 < l.length then some (pc, st2 l i (.long x), r) else none | _ => none
def tD (l : Lc) (i pc : Nat) (st : List Value) : Option Nx := match st with | .double x :: r => if i + 1 < l.length then some (pc, st2 l i (.double x), r) else none | _ => none
def oII (f : Int32 → Int32 → Int32) (l : Lc) (pc : Nat) (st : List Value) : Option Nx := match st with | .int y :: .int x :: r => some (pc, l, .int (f x y) :: r) | _ => none
def oLL (f : Int64 → Int64 → Int64) (l : Lc) (pc : Nat) (st : List Value) : Option Nx := match st with | .long y :: .long x :: r => some (pc, l, .long (f x y) :: r) | _ => none
def oLI (f : Int64 → Int32 → Int64) (l : Lc) (pc : Nat) (st : List Value) : Option Nx := match st with | .int y :: .long x :: r => some (pc, l, .long (f x y) :: r) | _ => none
def tgt (pc : Nat) (off : Int) : Nat := ((pc : Int) + off).toNat
/-- a jump by off is one within the code -/
def okt (pc : Nat) (off : Int) : Bool := decide (0 ≤ (pc : Int) + off)
def bI (c : Int32 → Bool) (off : Int) (l : Lc) (pc : Nat) (st : List Value) : Option Nx := match st with | .int x :: r => if okt pc off then some (if c x then tgt pc off else pc + 3, l, r) else none | _ => none
def bII (c : Int32 → Int32 → Bool) (off : Int) (l : Lc) (pc : Nat) (st : List Value) : Option Nx := match st with | .int y :: .int x :: r => if okt pc off then some (if c x y then tgt pc off else pc + 3, l, r) else none | _ => none
def cnd1 (c : ClassFile.Cond) (x : Int32) : Bool := match c with | .eq => decide (x = 0) | .ne => decide (¬ x = 0) | .lt => decide (x < 0) | .ge => decide (0 ≤ x) | .gt => decide (0 < x) | .le => decide (x ≤ 0)
def cnd2 (c : ClassFile.Cond) (x y : Int32) : Bool := match c with | .eq => decide (x = y) | .ne => decide (¬ x = y) | .lt => decide (x < y) | .ge => decide (y ≤ x) | .gt => decide (y < x) | .le => decide (x ≤ y)
/-- a switch by pairs -/
def swi (x : Int) (d : Int) (ps : List (Int × Int)) : Int := match ps with | [] => d | p :: r => if x = p.1 then p.2 else swi x d r
/-- what needs neither heap nor tables -/
def pS (i : Instr) (n pc : Nat) (l : Lc) (st : List Value) : Option Nx := match i with
  | .iconst k => if n = 1 then some (pc + 1, l, .int (Int32.ofInt k) :: st) else none
  | .bipush k => if n = 2 then some (pc + 2, l, .int (Int8.ofInt k).toInt32 :: st) else none
  | .sipush k => if n = 3 then some (pc + 3, l, .int (Int16.ofInt k).toInt32 :: st) else none
  | .lconst k => if n = 1 then some (pc + 1, l, .long (Int64.ofNat k.val) :: st) else none
  | .dconst k => if n = 1 ∧ k = 0 then some (pc + 1, l, .double 0 :: st) else none
  | .aconst_null => if n = 1 then some (pc + 1, l, .ref 0 :: st) else none
  | .iload_n k => if n = 1 then ldI l k.val (pc + 1) st else none
  | .iload k => if n = 2 then ldI l k (pc + 2) st else none
  | .lload_n k => if n = 1 then ldL l k.val (pc + 1) st else none
  | .lload k => if n = 2 then ldL l k (pc + 2) st else none
  | .dload_n k => if n = 1 then ldD l k.val (pc + 1) st else none
  | .dload k => if n = 2 then ldD l k (pc + 2) st else none
  | .aload_n k => if n = 1 then ldA l k.val (pc + 1) st else none
  | .aload k => if n = 2 then ldA l k (pc + 2) st else none
  | .istore_n k => if n = 1 then tI l k.val (pc + 1) st else none
  | .istore k => if n = 2 then tI l k (pc + 2) st else none
  | .lstore_n k => if n = 1 then tL l k.val (pc + 1) st else none
  | .lstore k => if n = 2 then tL l k (pc + 2) st else none
  | .dstore_n k => if n = 1 then tD l k.val (pc + 1) st else none
  | .dstore k => if n = 2 then tD l k (pc + 2) st else none
  | .astore_n k => if n = 1 then tA l k.val (pc + 1) st else none
  | .astore k => if n = 2 then tA l k (pc + 2) st else none
  | .iinc k c => if n = 3 then (match l[k]? with | some (some (.int x)) => some (pc + 3, st1 l k (.int (x + Int32.ofInt c)), st) | _ => none) else none
  | .iadd => if n = 1 then oII (· + ·) l (pc + 1) st else none
  | .isub => if n = 1 then oII (· - ·) l (pc + 1) st else none
  | .imul => if n = 1 then oII (· * ·) l (pc + 1) st else none
  | .iand => if n = 1 then oII (· &&& ·) l (pc + 1) st else none
  | .ior => if n = 1 then oII (· ||| ·) l (pc + 1) st else none
  | .ishl => if n = 1 then oII (fun x y => x <<< (y &&& 31)) l (pc + 1) st else none
  | .ishr => if n = 1 then oII (fun x y => x >>> (y &&& 31)) l (pc + 1) st else none
  | .ladd => if n = 1 then oLL (· + ·) l (pc + 1) st else none
  | .lsub => if n = 1 then oLL (· - ·) l (pc + 1) st else none
  | .lmul => if n = 1 then oLL (· * ·) l (pc + 1) st else none
  | .land => if n = 1 then oLL (· &&& ·) l (pc + 1) st else none
  | .lor => if n = 1 then oLL (· ||| ·) l (pc + 1) st else none
  | .lxor => if n = 1 then oLL (· ^^^ ·) l (pc + 1) st else none
  | .lneg => if n = 1 then (match st with | .long x :: r => some (pc + 1, l, .long (-x) :: r) | _ => none) else none
  | .lshl => if n = 1 then oLI (fun x y => x <<< (y.toInt64 &&& 63)) l (pc + 1) st else none
  | .lshr => if n = 1 then oLI (fun x y => x >>> (y.toInt64 &&& 63)) l (pc + 1) st else none
  | .lushr => if n = 1 then oLI (fun x y => (x.toUInt64 >>> (y.toInt64.toUInt64 &&& Int64.toUInt64 63)).toInt64) l (pc + 1) st else none
  | .lcmp => if n = 1 then (match st with | .long y :: .long x :: r => some (pc + 1, l, .int (lg_cmp x y) :: r) | _ => none) else none
  | .dcmp op => if n = 1 then (match st with | .double y :: .double x :: r => some (pc + 1, l, .int (Op.cmpValue (FP.dcmp x y) op) :: r) | _ => none) else none
  | .dneg => if n = 1 then (match st with | .double x :: r => some (pc + 1, l, .double (FP.dneg x) :: r) | _ => none) else none
  | .i2l => if n = 1 then (match st with | .int x :: r => some (pc + 1, l, .long x.toInt64 :: r) | _ => none) else none
  | .l2i => if n = 1 then (match st with | .long x :: r => some (pc + 1, l, .int x.toInt32 :: r) | _ => none) else none
  | .i2b => if n = 1 then (match st with | .int x :: r => some (pc + 1, l, .int x.toInt8.toInt32 :: r) | _ => none) else none
  | .i2d => if n = 1 then (match st with | .int x :: r => some (pc + 1, l, .double (FP.i2d x) :: r) | _ => none) else none
  | .l2d => if n = 1 then (match st with | .long x :: r => some (pc + 1, l, .double (FP.l2d x) :: r) | _ => none) else none
  | .dup => if n = 1 then (match st with | .ref x :: r => some (pc + 1, l, .ref x :: .ref x :: r) | .int x :: r => some (pc + 1, l, .int x :: .int x :: r) | _ => none) else none
  | .dup2 => if n = 1 then (match st with | .int y :: .ref x :: r => some (pc + 1, l, .int y :: .ref x :: .int y :: .ref x :: r) | _ => none) else none
  | .pop => if n = 1 then (match st with | .ref _ :: r => some (pc + 1, l, r) | .int _ :: r => some (pc + 1, l, r) | _ => none) else none
  | .goto off => if n = 3 then (if okt pc off then some (tgt pc off, l, st) else none) else none
  | .ifCond c off => if n = 3 then bI (cnd1 c) off l pc st else none
  | .if_icmp c off => if n = 3 then bII (cnd2 c) off l pc st else none
  | .ifnull off => if n = 3 then (match st with | .ref x :: r => if okt pc off then some (if x = 0 then tgt pc off else pc + 3, l, r) else none | _ => none) else none
  | .ifnonnull off => if n = 3 then (match st with | .ref x :: r => if okt pc off then some (if x = 0 then pc + 3 else tgt pc off, l, r) else none | _ => none) else none
  | .lookupswitch d ps => (match st with | .int x :: r => if (ps.toList.zip (ps.toList.drop 1)).all (fun (a, nx) => a.1 < nx.1) = true ∧ okt pc d = true ∧ (ps.toList.all fun p => okt pc p.2) = true then some (tgt pc (swi x.toInt d ps.toList), l, r) else none | _ => none)
  | .tableswitch d lo hi os => (match st with | .int x :: r => if okt pc d = true ∧ (os.toList.all fun o => okt pc o) = true ∧ hi - lo + 1 = os.size then some (if x.toInt < lo ∨ hi < x.toInt then tgt pc d else tgt pc (os.getD (x.toInt - lo).toNat d), l, r) else none | _ => none)
  | _ => none
