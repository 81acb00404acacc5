/-- what an instruction does: goes on, ends the method, or calls (the method, its arguments, the stack below them) -/
abbrev Ac : Type := (Nat × Lc × List Value × Hp) ⊕ ((Rs × Hp) ⊕ (Mr × List Value × List Value × Bool))
def fV (h : Hp) (a j t : Nat) : Value := match t with | 0 => .int (hI h a j) | 1 => .long (hL h a j) | 2 => .ref (hR h a j) | _ => .int (hI h a j)
/-- putting a value of the right kind -/
def pV (h : Hp) (a j t : Nat) (v : Value) : Option Hp := match t, v with
  | 0, .int x => some (sI h a j x)
  | 1, .long x => some (sL h a j x)
  | 2, .ref x => some (sR h a j x)
  | 3, .int x => if x = 0 ∨ x = 1 then some (sI h a j x) else none
  | _, _ => none
def ainr (i : Int32) (n : Nat) : Bool := !(decide (i < 0) || decide (n ≤ i.toNatClampNeg))
/-- 'throw new E("..")' as javac writes it -/
def thr (m : Mr) (pc c : Nat) : Bool := match decode (mB m) (pc + 3), decode (mB m) (pc + 4), decode (mB m) (pc + 6), decode (mB m) (pc + 9) with
  | .ok (.dup, 1), .ok (.ldc s, 2), .ok (.invokespecial ic, 3), .ok (.athrow, 1) => (strT.any fun q => q.1 == mC m && q.2.1 == s) && excT.contains (mC m, ic, c) && (mH m).isEmpty
  | _, _, _, _ => false
/-- the arguments, last first, off the stack -/
def args? (n : Nat) (st : List Value) : Option (List Value × List Value) := if n ≤ st.length then some ((st.take n).reverse, st.drop n) else none
def narrowOk (ty : FieldType) : Bool := match ty with | .int => true | .boolean => true | .byte => true | .short => true | .char => true | _ => false
def isRefT (ty : FieldType) : Bool := match ty with | .object _ => true | .array _ => true | _ => false
def retA (m : Mr) (v : Value) (h : Hp) : Option Ac := match mR m, v with
  | some .int, .int x => some (.inr (.inl (.inl (some (.int x)), h)))
  | some .boolean, .int x => some (.inr (.inl (.inl (some (narrow .boolean (.int x))), h)))
  | some .long, .long x => some (.inr (.inl (.inl (some (.long x)), h)))
  | some .double, .double x => some (.inr (.inl (.inl (some (.double x)), h)))
  | some (.object _), .ref x => some (.inr (.inl (.inl (some (.ref x)), h)))
  | _, _ => none
def gF (m : Mr) (k pc : Nat) (l : Lc) (st : List Value) (h : Hp) : Option Ac := match fldOf (mC m) k, st with
  | some (cs, j, t, _, _), .ref a :: r => if cs.contains (hS h a).1 = true then some (.inl (pc + 3, l, fV h a j t :: r, h)) else none
  | _, _ => none
def pF (m : Mr) (k pc : Nat) (l : Lc) (st : List Value) (h : Hp) : Option Ac := match fldOf (mC m) k, st with
  | some (cs, j, t, fin, _), v :: .ref a :: r => if cs.contains (hS h a).1 = true ∧ (fin = false ∨ mI m = true) then (match pV h a j t v with | some h' => some (.inl (pc + 3, l, r, h')) | none => none) else none
  | _, _ => none
def aLd (k : Nat) (f : Hp → Nat → Nat → Value) (pc : Nat) (l : Lc) (st : List Value) (h : Hp) : Option Ac := match st with
  | .int i :: .ref a :: r => if (hS h a).1 = k ∧ ainr i (hS h a).2 = true then some (.inl (pc + 1, l, f h a i.toNatClampNeg :: r, h)) else none
  | _ => none
def aSt (k : Nat) (f : Hp → Nat → Nat → Value → Option Hp) (pc : Nat) (l : Lc) (st : List Value) (h : Hp) : Option Ac := match st with
  | v :: .int i :: .ref a :: r => if (hS h a).1 = k ∧ ¬ a = 1 ∧ ainr i (hS h a).2 = true then (match f h a i.toNatClampNeg v with | some h' => some (.inl (pc + 1, l, r, h')) | none => none) else none
  | _ => none
def stI (h : Hp) (a j : Nat) (v : Value) : Option Hp := match v with | .int x => some (sI h a j x) | _ => none
def stB (h : Hp) (a j : Nat) (v : Value) : Option Hp := match v with | .int x => some (sI h a j x.toInt8.toInt32) | _ => none
def stL (h : Hp) (a j : Nat) (v : Value) : Option Hp := match v with | .long x => some (sL h a j x) | _ => none
def stD (h : Hp) (a j : Nat) (v : Value) : Option Hp := match v with | .double x => some (sD h a j x) | _ => none
def stR (h : Hp) (a j : Nat) (v : Value) : Option Hp := match v with | .ref x => if (hS h x).1 = 2 then some (sR h a j x) else none | _ => none
def room (h : Hp) (n : Nat) : Bool := decide (hN h < capN) && decide (hU h + n ≤ capU)
def isArr (k : Nat) : Bool := k == 20 || k == 21 || k == 22 || k == 23 || k == 24
def nwA (k : Nat) (pc : Nat) (l : Lc) (st : List Value) (h : Hp) : Option Ac := match st with
  | .int n :: r => if ¬ n < 0 ∧ n.toNatClampNeg ≤ 100000 ∧ room h n.toNatClampNeg = true then some (.inl (pc, l, .ref (hN h) :: r, hNew h k n.toNatClampNeg n.toNatClampNeg)) else none
  | _ => none
def atk (t : ClassFile.ArrayType) : Option Nat := match t with | .int => some 20 | .long => some 21 | .byte => some 22 | .double => some 23 | _ => none
/-- 'System.arraycopy' between two arrays of ints, bytes or longs -/
def cpA (pc : Nat) (l : Lc) (st : List Value) (h : Hp) : Option Ac := match st with
  | .int n :: .int j :: .ref b :: .int i :: .ref a :: r =>
    if ¬ n < 0 ∧ ¬ j < 0 ∧ ¬ i < 0 ∧ ¬ a = 1 ∧ ¬ b = 1 ∧ (hS h a).1 = (hS h b).1 ∧ ((hS h b).1 = 22 ∨ (hS h b).1 = 21) ∧ i.toNatClampNeg + n.toNatClampNeg ≤ (hS h a).2 ∧ j.toNatClampNeg + n.toNatClampNeg ≤ (hS h b).2 ∧ r.length ≤ 16
    then some (.inl (pc + 3, l, r, if (hS h b).1 = 22 then cI h a i.toNatClampNeg b j.toNatClampNeg n.toNatClampNeg else cL h a i.toNatClampNeg b j.toNatClampNeg n.toNatClampNeg)) else none
  | _ => none
/-- 'Math.max', 'Math.min' of ints and longs -/
def mth (kind pc : Nat) (l : Lc) (st : List Value) (h : Hp) : Option Ac := match kind, st with
  | 6, .int y :: .int x :: r => if r.length ≤ 16 then some (.inl (pc + 3, l, .int (if x < y then y else x) :: r, h)) else none
  | 7, .int y :: .int x :: r => if r.length ≤ 16 then some (.inl (pc + 3, l, .int (if y < x then y else x) :: r, h)) else none
  | 8, .long y :: .long x :: r => if r.length ≤ 16 then some (.inl (pc + 3, l, .long (if y < x then x else y) :: r, h)) else none
  | 9, .long y :: .long x :: r => if r.length ≤ 16 then some (.inl (pc + 3, l, .long (if y < x then y else x) :: r, h)) else none
  | _, _ => none
/-- 'Object.<init>' -/
def oin (pc : Nat) (l : Lc) (st : List Value) (h : Hp) : Option Ac := match st with
  | .ref a :: r => if 2 ≤ a ∧ r.length ≤ 16 then some (.inl (pc + 3, l, r, h)) else none
  | _ => none
/-- calls: kind 0 static, 1 <init>, 2 virtual (may throw), 3 Object.<init>, 4 System.arraycopy, 5 virtual, of another class's or by another's name, 6 .. 9 Math -/
def cS (m : Mr) (k pc : Nat) (l : Lc) (st : List Value) (h : Hp) : Option Ac := match calOf (mC m) k with
  | some (kind, n, ts) => (match kind with
    | 0 => (match args? n st, ts with | some (as, r), [(_, m')] => if r.length ≤ 16 ∧ (as.map Value.category).sum ≤ mL m' then some (.inr (.inr (m', as, r, false))) else none | _, _ => none)
    | 4 => cpA pc l st h
    | _ => mth kind pc l st h)
  | none => none
/-- the callee by the receiver's class -/
def rcv (h : Hp) (ts : List (Nat × Mr)) (as : List Value) : Option Mr := match as with
  | .ref a :: _ => ts.lookup (hS h a).1
  | _ => none
def cI_ (m : Mr) (k pc : Nat) (l : Lc) (st : List Value) (h : Hp) : Option Ac := match calOf (mC m) k with
  | some (kind, n, ts) => (match kind with
    | 1 => (match args? n st with | some (as, r) => (match rcv h ts as with | some m' => if r.length ≤ 16 ∧ (as.map Value.category).sum ≤ mL m' then some (.inr (.inr (m', as, r, false))) else none | none => none) | none => none)
    | 3 => oin pc l st h
    | _ => none)
  | none => none
def cV (m : Mr) (k : Nat) (st : List Value) (h : Hp) : Option Ac := match calOf (mC m) k with
  | some (kind, n, ts) => if kind = 2 ∨ kind = 5 then (match args? n st with | some (as, r) => (match rcv h ts as with | some m' => if r.length ≤ 16 ∧ (as.map Value.category).sum ≤ mL m' then some (.inr (.inr (m', as, r, kind == 2))) else none | none => none) | none => none) else none
  | none => none
def stA (m : Mr) (i : Instr) (n pc : Nat) (l : Lc) (st : List Value) (h : Hp) : Option Ac := match i with
  | .getfield k => if n = 3 then gF m k pc l st h else none
  | .putfield k => if n = 3 then pF m k pc l st h else none
  | .iaload => if n = 1 then aLd 20 (fun h a j => .int (hI h a j)) pc l st h else none
  | .baload => if n = 1 then aLd 22 (fun h a j => .int (hI h a j)) pc l st h else none
  | .laload => if n = 1 then aLd 21 (fun h a j => .long (hL h a j)) pc l st h else none
  | .daload => if n = 1 then aLd 23 (fun h a j => .double (hD h a j)) pc l st h else none
  | .aaload => if n = 1 then aLd 24 (fun h a j => .ref (hR h a j)) pc l st h else none
  | .iastore => if n = 1 then aSt 20 stI pc l st h else none
  | .bastore => if n = 1 then aSt 22 stB pc l st h else none
  | .lastore => if n = 1 then aSt 21 stL pc l st h else none
  | .dastore => if n = 1 then aSt 23 stD pc l st h else none
  | .aastore => if n = 1 then aSt 24 stR pc l st h else none
  | .arraylength => if n = 1 then (match st with | .ref a :: r => if isArr (hS h a).1 = true then some (.inl (pc + 1, l, .int (Int32.ofNat (hS h a).2) :: r, h)) else none | _ => none) else none
  | .new k => if n = 3 then (match clsOf (mC m) k with
      | some (c, sz) => if 9 ≤ c then (if thr m pc c = true ∧ room h 6 = true ∧ st.length ≤ 16 then some (.inr (.inl (.inr (hN h), hNew h c 0 6))) else none)
          else (if room h sz = true then some (.inl (pc + 3, l, .ref (hN h) :: st, hNew h c 0 sz)) else none)
      | none => none) else none
  | .newarray t => if n = 2 then (match atk t with | some k => nwA k (pc + 2) l st h | none => none) else none
  | .anewarray k => if n = 3 ∧ clsOf (mC m) k = some (2, 16) then nwA 24 (pc + 3) l st h else none
  | .invokestatic k => if n = 3 then cS m k pc l st h else none
  | .invokespecial k => if n = 3 then cI_ m k pc l st h else none
  | .invokevirtual k => if n = 3 then cV m k st h else none
  | .ldc2_w k => if n = 3 then (match cstOf (mC m) k with | some v => some (.inl (pc + 3, l, v :: st, h)) | none => none) else none
  | .ireturn => if n = 1 then (match st with | [.int x] => retA m (.int x) h | _ => none) else none
  | .lreturn => if n = 1 then (match st with | [.long x] => retA m (.long x) h | _ => none) else none
  | .dreturn => if n = 1 then (match st with | [.double x] => retA m (.double x) h | _ => none) else none
  | .areturn => if n = 1 then (match st with | [.ref x] => retA m (.ref x) h | _ => none) else none
  | .return_ => if n = 1 ∧ mR m = none then (match st with | [] => some (.inr (.inl (.inl none, h))) | _ => none) else none
  | .dadd => if n = 1 then (match st with | .double y :: .double x :: r => if (FP.dadd x y) &&& 0x7fffffffffffffff ≤ 0x7ff0000000000000 then some (.inl (pc + 1, l, .double (FP.dadd x y) :: r, h)) else none | _ => none) else none
  | .dmul => if n = 1 then (match st with | .double y :: .double x :: r => if (FP.dmul x y) &&& 0x7fffffffffffffff ≤ 0x7ff0000000000000 then some (.inl (pc + 1, l, .double (FP.dmul x y) :: r, h)) else none | _ => none) else none
  | .idiv => if n = 1 then (match st with | .int y :: .int x :: r => if ¬ y = 0 then some (.inl (pc + 1, l, .int (x / y) :: r, h)) else none | _ => none) else none
  | .irem => if n = 1 then (match st with | .int y :: .int x :: r => if ¬ y = 0 then some (.inl (pc + 1, l, .int (x - x / y * y) :: r, h)) else none | _ => none) else none
  | .ldiv => if n = 1 then (match st with | .long y :: .long x :: r => if ¬ y = 0 then some (.inl (pc + 1, l, .long (x / y) :: r, h)) else none | _ => none) else none
  | i => match pS i n pc l st with | some (pc', l', st') => some (.inl (pc', l', st', h)) | none => none
def lc0 (m : Mr) (as : List Value) : Lc := let s := as.flatMap (fun v => if v.category = 2 then [some v, none] else [some v]); s ++ List.replicate (mL m - s.length) none
def hnd (m : Mr) (pc k : Nat) : Option Nat := ((mH m).find? (fun e => decide (e.1 ≤ pc) && decide (pc < e.2.1) && e.2.2.2 == k)).map (·.2.2.1)
/-- how a method ends, from a point of it: f steps, d calls deep -/
def ev : Nat → Nat → Mr → Nat → Lc → List Value → Hp → Option (Rs × Hp)
  | 0, _, _, _, _, _, _ => none
  | f + 1, d, m, pc, l, st, h => match decode (mB m) pc with
    | .error _ => none
    | .ok (i, n) => match stA m i n pc l st h with
      | none => none
      | some (.inl (pc', l', st', h')) => ev f d m pc' l' st' h'
      | some (.inr (.inl r)) => some r
      | some (.inr (.inr (m', as, r, tf))) => match d with
        | 0 => none
        | d' + 1 => match ev f d' m' 0 (lc0 m' as) [] h with
          | none => none
          | some (.inl v, h') => ev f (d' + 1) m (pc + 3) l (v.toList ++ r) h'
          | some (.inr x, h') => if tf = true then (match hnd m pc (hS h' x).1 with
            | some q => ev f (d' + 1) m q l [.ref x] h'
            | none => if (mH m).isEmpty = true then some (.inr x, h') else none) else none
