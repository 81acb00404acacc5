/-! writing, without a heap: V the values, n how many; how many were taken, and the bytes made -/
abbrev Wo : Type := Nat × (Nat → Int32)
def upW (W : Nat → Int32) (p : Nat) (x : Int32) : Nat → Int32 := fun i => if i = p then x else W i
/-- bytes, as f tells them -/
def pby (f : Nat → Int32) : Nat → Nat → Nat → Wo → Int32 × Nat × Wo
  | 0, _, B, w => (0, B, w)
  | m + 1, k, B, w => if bfN B < 120 then pby f m (k + 1) (B + 8) (w.1, upW w.2 (bfN B) (f k)) else (2, B, w)
def btV (v : Int64) (m : Nat) : Int32 := (v >>> ((iv m).toInt64 &&& 63)).toInt32 &&& 1
def oneB (x : Int32) (B : Nat) (W : Nat → Int32) : Nat → Int32 := upW W (B / 8) ((if B % 8 = 0 then 0 else W (B / 8)) ||| (x <<< ((7 - iv (B % 8)) &&& 31)))
/-- bits, from bit m - 1 down -/
def pbt (v : Int64) : Nat → Nat → Wo → Int32 × Nat × Wo
  | 0, B, w => (0, B, w)
  | m + 1, B, w => if B % 8 = 0 ∧ ¬ bfN B < 120 then (2, B, w) else pbt v m (B + 1) (w.1, oneB (btV v m) B w.2)
section WRP
variable (V : Nat → Int64) (n : Nat) (S : Tb)
/-- bytes that are values -/
def pwd (lo : Int64) : Nat → Nat → Wo → Int32 × Nat × Wo
  | 0, B, w => (0, B, w)
  | m + 1, B, w => if w.1 < n then (if V w.1 < lo ∨ 255 < V w.1 then (2, B, w) else if bfN B < 120 then pwd lo m (B + 8) (w.1 + 1, upW w.2 (bfN B) ((V w.1).toInt32 &&& 255)) else (2, B, w)) else (1, B, w)
def wth (x : Int64) (o : Int32 × Nat × Wo) : Int32 × Nat × Wo × Int64 := (o.1, o.2.1, o.2.2, x)
def end0 (o : Int32 × Nat × Wo) : Int32 × Nat × Wo := if o.1 = 0 then pby (fun _ => 0) 1 0 o.2.1 o.2.2 else o
def byV (v : Int64) (w : Nat) (low : Bool) (k : Nat) : Int32 := bx v (if low = true then k else w - 1 - k)
def UWr (k B : Nat) (w : Wo) : Int32 × Nat × Wo × Int64 :=
  if w.1 < n then
    if tG S k 0 = 114 then (if V w.1 < 0 ∨ 120 < V w.1 then (2, B, w, 0) else wth 0 (pwd V n 0 (V w.1).toInt.toNat B (w.1 + 1, w.2)))
    else if tG S k 0 = 122 then (if V w.1 < 0 ∨ 20 < V w.1 then (2, B, w, 0) else wth 0 (end0 (pwd V n 1 (V w.1).toInt.toNat B (w.1 + 1, w.2))))
    else if V w.1 < loT S k ∨ hiT S k < V w.1 then (2, B, w, 0)
    else if tG S k 0 = 112 then wth (V w.1) (pbt (V w.1) (dgN S k) B (w.1 + 1, w.2))
    else wth (V w.1) (pby (byV (V w.1) (wdN S k) (decide (tG S k 0 = 118))) (wdN S k) 0 B (w.1 + 1, w.2))
  else (1, B, w, 0)
def spWr (B : Nat) (_ : Wo) : Int32 × Nat := (0, 8 * bfN B)
end WRP
theorem pby_ok {f : Nat → Int32} : ∀ m k B w, ¬ (pby f m k B w).1 = 7 ∧ ((pby f m k B w).1 = 0 → (pby f m k B w).2.1 = B + 8 * m)
  | 0, k, B, w => ⟨show ¬ (0 : Int32) = 7 by decide, fun _ => rfl⟩
  | m + 1, k, B, w => by
    unfold pby
    by_cases c : bfN B < 120
    · rw [if_pos c]
      obtain ⟨a, b⟩ := pby_ok (f := f) m (k + 1) (B + 8) (w.1, upW w.2 (bfN B) (f k))
      exact ⟨a, fun y => by have := b y; omega⟩
    · rw [if_neg c]; exact ⟨show ¬ (2 : Int32) = 7 by decide, fun y => absurd y (show ¬ (2 : Int32) = 0 by decide)⟩
theorem pbt_ok {v : Int64} : ∀ m B w, ¬ (pbt v m B w).1 = 7 ∧ ((pbt v m B w).1 = 0 → (pbt v m B w).2.1 = B + m)
  | 0, B, w => ⟨show ¬ (0 : Int32) = 7 by decide, fun _ => rfl⟩
  | m + 1, B, w => by
    unfold pbt
    by_cases c : B % 8 = 0 ∧ ¬ bfN B < 120
    · rw [if_pos c]; exact ⟨show ¬ (2 : Int32) = 7 by decide, fun y => absurd y (show ¬ (2 : Int32) = 0 by decide)⟩
    · rw [if_neg c]
      obtain ⟨a, b⟩ := pbt_ok (v := v) m (B + 1) (w.1, oneB (btV v m) B w.2)
      exact ⟨a, fun y => by have := b y; omega⟩
theorem pwd_ok {V : Nat → Int64} {n : Nat} {lo : Int64} : ∀ m B w, ¬ (pwd V n lo m B w).1 = 7 ∧ ((pwd V n lo m B w).1 = 0 → (pwd V n lo m B w).2.1 = B + 8 * m)
  | 0, B, w => ⟨show ¬ (0 : Int32) = 7 by decide, fun _ => rfl⟩
  | m + 1, B, w => by
    have two : ¬ ((2 : Int32), B, w).1 = 7 ∧ (((2 : Int32), B, w).1 = 0 → ((2 : Int32), B, w).2.1 = B + 8 * (m + 1)) := ⟨show ¬ (2 : Int32) = 7 by decide, fun y => absurd y (show ¬ (2 : Int32) = 0 by decide)⟩
    unfold pwd
    by_cases c : w.1 < n
    · rw [if_pos c]
      by_cases c1 : V w.1 < lo ∨ 255 < V w.1
      · rw [if_pos c1]; exact two
      rw [if_neg c1]
      by_cases c2 : bfN B < 120
      · rw [if_pos c2]
        obtain ⟨a, b⟩ := pwd_ok (V := V) (n := n) (lo := lo) m (B + 8) (w.1 + 1, upW w.2 (bfN B) ((V w.1).toInt32 &&& 255))
        exact ⟨a, fun y => by have := b y; omega⟩
      · rw [if_neg c2]; exact two
    · rw [if_neg c]; exact ⟨show ¬ (1 : Int32) = 7 by decide, fun y => absurd y (show ¬ (1 : Int32) = 0 by decide)⟩
theorem end0_ok {V : Nat → Int64} {n : Nat} {lo : Int64} {m B : Nat} {w : Wo} : ¬ (end0 (pwd V n lo m B w)).1 = 7 ∧ ((end0 (pwd V n lo m B w)).1 = 0 → (end0 (pwd V n lo m B w)).2.1 = B + 8 * m + 8) := by
  obtain ⟨a, b⟩ := pwd_ok (V := V) (n := n) (lo := lo) m B w
  unfold end0
  by_cases c : (pwd V n lo m B w).1 = 0
  · rw [if_pos c]
    obtain ⟨a1, b1⟩ := pby_ok (f := fun _ => 0) 1 0 (pwd V n lo m B w).2.1 (pwd V n lo m B w).2.2
    exact ⟨a1, fun y => by have := b1 y; have := b c; omega⟩
  · rw [if_neg c]; exact ⟨a, fun y => absurd y c⟩
theorem uok_wr {V : Nat → Int64} {n : Nat} {S : Tb} (T : TW S) : UOk S (UWr V n S) := fun k B w hk hu => by
  have G := (T.2.2.1 k hk).1
  have one : ¬ ((1 : Int32), B, w, (0 : Int64)).1 = 7 ∧ ∀ {P : Prop}, ((1 : Int32), B, w, (0 : Int64)).1 = 0 → P := ⟨show ¬ (1 : Int32) = 7 by decide, fun {P} y => absurd y (show ¬ (1 : Int32) = 0 by decide)⟩
  have two : ¬ ((2 : Int32), B, w, (0 : Int64)).1 = 7 ∧ ∀ {P : Prop}, ((2 : Int32), B, w, (0 : Int64)).1 = 0 → P := ⟨show ¬ (2 : Int32) = 7 by decide, fun {P} y => absurd y (show ¬ (2 : Int32) = 0 by decide)⟩
  unfold UWr
  by_cases t : w.1 < n
  case neg => rw [if_neg t]; exact ⟨one.1, one.2⟩
  rw [if_pos t]
  by_cases c1 : tG S k 0 = 114
  · rw [if_pos c1]
    by_cases q : V w.1 < 0 ∨ 120 < V w.1
    · rw [if_pos q]; exact ⟨two.1, two.2⟩
    rw [if_neg q]
    obtain ⟨a, b⟩ := pwd_ok (V := V) (n := n) (lo := 0) (V w.1).toInt.toNat B (w.1 + 1, w.2)
    refine ⟨a, fun y => ?_⟩
    have e : (wth 0 (pwd V n 0 (V w.1).toInt.toNat B (w.1 + 1, w.2))).2.1 = _ := b y
    rw [e]
    refine ⟨by omega, fun z => ?_, fun _ z => by omega, fun z => by rw [c1] at z; cases z⟩
    have z := z.resolve_left (by rw [c1]; decide)
    rw [me_eq T.1 hk] at z
    unfold locN at z
    rw [if_neg (by rw [c1]; decide), if_neg (by rw [c1]; decide), if_neg (by rw [c1]; decide), if_neg (by rw [c1]; decide), if_pos c1] at z
    exact absurd (show (0 : Nat) < 0 from z) (Nat.lt_irrefl 0)
  rw [if_neg c1]
  by_cases c2 : tG S k 0 = 122
  · rw [if_pos c2]
    by_cases q : V w.1 < 0 ∨ 20 < V w.1
    · rw [if_pos q]; exact ⟨two.1, two.2⟩
    rw [if_neg q]
    obtain ⟨a, b⟩ := end0_ok (V := V) (n := n) (lo := 1) (m := (V w.1).toInt.toNat) (B := B) (w := (w.1 + 1, w.2))
    refine ⟨a, fun y => ?_⟩
    have e : (wth 0 (end0 (pwd V n 1 (V w.1).toInt.toNat B (w.1 + 1, w.2)))).2.1 = _ := b y
    rw [e]
    exact ⟨by omega, fun _ => by omega, fun _ z => by omega, fun z => by rw [c2] at z; cases z⟩
  rw [if_neg c2]
  by_cases q : V w.1 < loT S k ∨ hiT S k < V w.1
  · rw [if_pos q]; exact ⟨two.1, two.2⟩
  rw [if_neg q]
  have q2 : ¬ V w.1 < loT S k ∧ ¬ hiT S k < V w.1 := ⟨fun z => q (Or.inl z), fun z => q (Or.inr z)⟩
  by_cases c : tG S k 0 = 112
  · rw [if_pos c]
    obtain ⟨a, b⟩ := pbt_ok (v := V w.1) (dgN S k) B (w.1 + 1, w.2)
    have := (dg_num' G (by rw [c]; rfl)).2.1
    refine ⟨a, fun y => ?_⟩
    have e : (wth (V w.1) (pbt (V w.1) (dgN S k) B (w.1 + 1, w.2))).2.1 = _ := b y
    rw [e]
    exact ⟨by omega, fun _ => by omega, fun z => absurd c z, fun _ => q2⟩
  rw [if_neg c]
  obtain ⟨w1, w2, w3⟩ := wd_num G hu c c1 c2
  obtain ⟨a, b⟩ := pby_ok (f := byV (V w.1) (wdN S k) (decide (tG S k 0 = 118))) (wdN S k) 0 B (w.1 + 1, w.2)
  refine ⟨a, fun y => ?_⟩
  have e : (wth (V w.1) (pby (byV (V w.1) (wdN S k) (decide (tG S k 0 = 118))) (wdN S k) 0 B (w.1 + 1, w.2))).2.1 = _ := b y
  rw [e]
  exact ⟨by omega, fun _ => by omega, fun _ z => by omega, fun _ => q2⟩
theorem sok_wr : SOk spWr := fun B w => by
  refine ⟨show ¬ (0 : Int32) = 7 by decide, fun _ => ⟨?_, ?_⟩, fun al => ?_⟩
  · show B ≤ 8 * bfN B; unfold bfN; omega
  · show 8 * bfN B % 8 = 0; omega
  · show ((0 : Int32), 8 * bfN B) = (0, B)
    rw [show 8 * bfN B = B by unfold bfN; omega]
