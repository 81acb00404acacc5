/-! the text's syntax twice, without a heap: by descent (pT), and sign by sign (sgn, run); they agree (sim_top) -/
def sz (c : Int32) : Bool := decide (c = 117) || decide (c = 118) || decide (c = 115) || decide (c = 112)
def sm (c : Int32) : Bool := decide (c = 102) || decide (c = 100) || decide (c = 122) || decide (c = 114)
def dp (c : Int32) : Bool := decide (c = 42) || decide (c = 47) || decide (c = 63)
def nm (c : Int32) : Bool := !decide (c < 97) && !decide (108 < c)
def di (c : Int32) : Bool := !decide (c - 48 < 0) && !decide (9 < c - 48)
/-- how many nodes; field j of node k (0 kind, 1 digit, 2 limit, 3 figure, 4 key, 5 own name, 6 case, 7 name around); 0 or the parent + 1 -/
abbrev Tb : Type := Nat × (Nat → Nat → Int32) × (Nat → Nat)
def tG (S : Tb) (n j : Nat) : Int32 := S.2.1 n j
def tF (S : Tb) (n j : Nat) (v : Int32) : Tb := (S.1, up2 S.2.1 n j v, S.2.2)
def tB (S : Tb) (c own cs inh : Int32) (par : Nat) : Tb := (S.1 + 1, up2 (up2 (up2 (up2 (up2 (up2 S.2.1 S.1 0 c) S.1 2 0) S.1 3 0) S.1 5 own) S.1 6 cs) S.1 7 inh, fun k => if k = S.1 then par else S.2.2 k)
def nd (t : Nat → Int32) (i : Nat) : Nat := if di (t i) = false then 0 else if di (t (i + 1)) = false then 1 else if di (t (i + 2)) = false then 2 else 3
def fg (t : Nat → Int32) (i : Nat) : Nat → Int32
  | 0 => 0
  | m + 1 => fg t i m * 10 + t (i + m) - 48
abbrev Rp : Type := Nat × Option Tb
def pLim (t : Nat → Int32) (i n : Nat) (S : Tb) : Rp :=
  if t i = 60 ∨ t i = 62 ∨ t i = 61 then (if nd t (i + 1) = 0 then (i + 1, none) else (i + 1 + nd t (i + 1), some (tF (tF S n 2 (t i)) n 3 (fg t (i + 1) (nd t (i + 1)))))) else (i, some S)
def pSz (t : Nat → Int32) (lim : Int32) (i n : Nat) (S : Tb) : Rp :=
  if t i - 48 < 1 ∨ lim < t i - 48 then (i, none) else pLim t (i + 1) n (tF S n 1 (t i - 48))
def pFields (t : Nat → Int32) (rec : Nat → Nat → Int32 → Int32 → Int32 → Tb → Rp) (R n : Nat) : Nat → Nat → Tb → Rp
  | 0, i, _ => (i, none)
  | k + 1, i, S => if t i = 125 then (i + 1, some S) else if R = 0 ∨ nm (t i) = false then (i, none) else if ¬ t (i + 1) = 58 then (i + 1, none) else
    match rec (i + 2) (n + 1) (t i - 97) (-1) (t i - 97) S with
    | (j, none) => (j, none)
    | (j, some S') => if ¬ t j = 59 then (j, none) else pFields t rec R n k (j + 1) S'
def pCases (t : Nat → Int32) (rec : Nat → Nat → Int32 → Int32 → Int32 → Tb → Rp) (n : Nat) (inh : Int32) : Nat → Bool → Nat → Tb → Rp
  | 0, _, i, _ => (i, none)
  | k + 1, first, i, S => if first = false ∧ t i = 125 then (i + 1, some S) else if nd t i = 0 then (i, none) else if ¬ t (i + nd t i) = 58 then (i + nd t i, none) else
    match rec (i + nd t i + 1) (n + 1) (-1) (fg t i (nd t i)) inh S with
    | (j, none) => (j, none)
    | (j, some S') => if ¬ t j = 59 then (j, none) else pCases t rec n inh k false (j + 1) S'
def pTail (t : Nat → Int32) (rec : Nat → Nat → Int32 → Int32 → Int32 → Tb → Rp) (R : Nat) (c : Int32) (n : Nat) (inh : Int32) (i : Nat) (S : Tb) : Rp :=
  if c = 42 ∨ c = 47 then (if nm (t i) = false then (i, none) else rec (i + 1) (n + 1) (-1) (-1) inh (tF S n 4 (t i - 97)))
  else if c = 63 then (if nm (t i) = false then (i, none) else if ¬ t (i + 1) = 123 then (i + 1, none) else pCases t rec n inh 90 true (i + 2) (tF S n 4 (t i - 97)))
  else if c = 123 then pFields t rec R n 90 i S
  else if c = 112 then pSz t 7 i n S
  else if sm c = true then (i, some S) else pSz t 4 i n S
/-- a TYPE that begins at place i, with so many levels left -/
def pT (t : Nat → Int32) : Nat → Nat → Nat → Int32 → Int32 → Int32 → Tb → Rp
  | 0, i, _, _, _, _, _ => (i, none)
  | R + 1, i, par, own, cs, inh, S =>
    if sz (t i) || sm (t i) || decide (t i = 123) || (dp (t i) && !decide (R = 0)) then pTail t (pT t R) R (t i) S.1 inh (i + 1) (tB S (t i) own cs inh par) else (i, none)
/-! sign by sign -/
/-- a type that stands open: its node, state, digits, what is wanted -/
abbrev Fm : Type := Nat × Nat × Nat × Int32
abbrev Cf : Type := Tb × List Fm
def fin (S : Tb) : List Fm → List Fm
  | [] => []
  | (n, _, dg, w) :: r => if tG S n 0 = 42 ∨ tG S n 0 = 47 then fin S r else (n, (if tG S n 0 = 123 then 3 else 5), dg, w) :: r
def cxO (S : Tb) : List Fm → Int32 | [] => -1 | (n, _, _, w) :: _ => if tG S n 0 = 123 then w else -1
def cxC (S : Tb) : List Fm → Int32 | [] => -1 | (n, _, _, w) :: _ => if tG S n 0 = 63 then w else -1
def cxI (S : Tb) : List Fm → Int32 | [] => -1 | (n, _, _, w) :: _ => if tG S n 0 = 123 then w else tG S n 7
def cxP : List Fm → Nat | [] => 0 | (n, _, _, _) :: _ => n + 1
def bg (X : Cf) (c : Int32) : Tb := tB X.1 c (cxO X.1 X.2) (cxC X.1 X.2) (cxI X.1 X.2) (cxP X.2)
def bgn (X : Cf) (c : Int32) : Option Cf :=
  if (sm c || dp c || sz c || decide (c = 123)) = false ∨ X.2.length = 5 ∨ (dp c = true ∧ X.2.length = 4) then none
  else some (bg X c, if sm c = true then fin (bg X c) X.2 else (X.1.1, 0, 0, 0) :: X.2)
def hc (S : Tb) (n : Nat) : Bool := (List.range S.1).any fun k => decide (S.2.2 k = n + 1)
def inStr (X : Cf) (c : Int32) (n s dg : Nat) (w : Int32) (r : List Fm) : Option Cf :=
  if s = 0 then (if c = 125 then some (X.1, fin X.1 r) else if nm c = true ∧ X.2.length < 5 then some (X.1, (n, 1, dg, c - 97) :: r) else none)
  else if s = 2 then bgn X c
  else if s = 1 then (if c = 58 then some (X.1, (n, 2, dg, w) :: r) else none)
  else (if c = 59 then some (X.1, (n, 0, dg, w) :: r) else none)
def inCho (X : Cf) (c : Int32) (n s dg : Nat) (w : Int32) (r : List Fm) : Option Cf :=
  if s = 4 then bgn X c
  else if s = 0 then (if nm c = true then some (tF X.1 n 4 (c - 97), (n, 1, dg, w) :: r) else none)
  else if s = 1 then (if c = 123 then some (X.1, (n, 2, dg, w) :: r) else none)
  else if s = 5 then (if c = 59 then some (X.1, (n, 2, dg, w) :: r) else none)
  else if s = 2 ∧ c = 125 ∧ hc X.1 n = true then some (X.1, fin X.1 r)
  else if di c = true ∧ (s = 2 ∨ dg < 3) then some (X.1, (n, 3, if s = 2 then 1 else dg + 1, if s = 2 then c - 48 else w * 10 + c - 48) :: r)
  else if s = 3 ∧ c = 58 then some (X.1, (n, 4, dg, w) :: r) else none
def inMny (X : Cf) (c : Int32) (n s dg : Nat) (w : Int32) (r : List Fm) : Option Cf :=
  if s = 1 then bgn X c else if nm c = true then some (tF X.1 n 4 (c - 97), (n, 1, dg, w) :: r) else none
def sgn2 (X : Cf) (c : Int32) : Option Cf := match X.2 with
  | [] => none
  | (n, s, dg, w) :: r => if tG X.1 n 0 = 123 then inStr X c n s dg w r else if tG X.1 n 0 = 63 then inCho X c n s dg w r else inMny X c n s dg w r
def sgn (X : Cf) (c : Int32) : Option Cf := if X.1.1 = 0 then bgn X c else match X.2 with
  | [] => none
  | (n, s, dg, w) :: r => if sz (tG X.1 n 0) = true then
      (if s = 0 then (if c - 48 < 1 ∨ (if tG X.1 n 0 = 112 then 7 else 4) < c - 48 then none else some (tF X.1 n 1 (c - 48), (n, 1, dg, w) :: r))
       else if s = 1 ∧ (c = 60 ∨ c = 62 ∨ c = 61) then some (tF X.1 n 2 c, (n, 2, 0, w) :: r)
       else if (s = 2 ∨ (s = 3 ∧ dg < 3)) ∧ di c = true then some (tF X.1 n 3 (tG X.1 n 3 * 10 + c - 48), (n, 3, dg + 1, w) :: r)
       else if s = 2 then none else sgn2 (X.1, fin X.1 r) c)
    else sgn2 X c
def ars (S : Tb) (st : List Fm) : Bool := st.all fun f => decide (tG S f.1 0 = 42 ∨ tG S f.1 0 = 47)
def whl (X : Cf) : Bool := !decide (X.1.1 = 0) && (match X.2 with
  | [] => true
  | (n, s, _, _) :: r => sz (tG X.1 n 0) && decide (s = 1 ∨ s = 3) && ars X.1 r)
def run (t : Nat → Int32) : Nat → Nat → Cf → Rp
  | 0, i, X => (i, if whl X = true then some X.1 else none)
  | r + 1, i, X => match sgn X (t i) with
    | none => (i, none)
    | some X' => run t r (i + 1) X'
