/-! reading, without a heap: M the message's bytes, L how many; what is found -/
section RDP
variable (M : Nat → Int32) (L : Nat) (S : Tb)
def bitAt (i : Nat) : Int32 := (M (i / 8) >>> ((7 - iv (i % 8)) &&& 31)) &&& 1
def bitsV (B : Nat) : Nat → Int64
  | 0 => 0
  | k + 1 => (bitsV B k <<< ((1 : Int32).toInt64 &&& 63)) ||| (bitAt M (B + k)).toInt64
def wdN (k : Nat) : Nat := (wdT S k).toInt.toNat
/-- bytes from p on, the first the highest, or the last -/
def numV (p w : Nat) (low : Bool) : Nat → Int64
  | 0 => 0
  | j + 1 => (numV p w low j <<< ((8 : Int32).toInt64 &&& 63)) ||| (M (p + if low = true then w - 1 - j else j)).toInt64
def sgnV (c : Int32) (w : Nat) (v : Int64) : Int64 := if mNeg c = true then (v <<< ((iv (64 - 8 * w)).toInt64 &&& 63)) >>> ((iv (64 - 8 * w)).toInt64 &&& 63) else v
def kpP (k : Nat) (v : Int64) (B : Nat) (w : List Int64) : Int32 × Nat × List Int64 × Int64 := if (v < loT S k ∨ hiT S k < v) ∨ ¬ w.length < 160 then (2, B, w, 0) else (0, B, w ++ [v], v)
def bysV (p : Nat) : Nat → List Int64
  | 0 => []
  | j + 1 => bysV p j ++ [(M (p + j)).toInt64]
def kbP (p m B : Nat) (w : List Int64) : Int32 × Nat × List Int64 × Int64 := if w.length + 1 + m ≤ 160 then (0, B, w ++ jv m :: bysV M p m, 0) else (2, B, w, 0)
/-- how many bytes lie before a 0 byte, 21 at most -/
def wlF (p left : Nat) : Nat → Nat → Nat
  | 0, k => k
  | f + 1, k => if k < left then (if M (p + k) = 0 then k else wlF p left f (k + 1)) else k
def URd (k B : Nat) (w : List Int64) : Int32 × Nat × List Int64 × Int64 :=
  if tG S k 0 = 112 then (if 8 * L < B + dgN S k then (1, B, w, 0) else kpP S k (bitsV M B (dgN S k)) (B + dgN S k) w)
  else if tG S k 0 = 114 then kbP M (bfN B) (L - bfN B) (B + 8 * (L - bfN B)) w
  else if tG S k 0 = 122 then (if 20 < wlF M (bfN B) (L - bfN B) 21 0 then (2, B, w, 0) else if wlF M (bfN B) (L - bfN B) 21 0 = L - bfN B then (1, B, w, 0) else kbP M (bfN B) (wlF M (bfN B) (L - bfN B) 21 0) (B + 8 * wlF M (bfN B) (L - bfN B) 21 0 + 8) w)
  else if L < bfN B + wdN S k then (1, B, w, 0) else kpP S k (sgnV (tG S k 0) (wdN S k) (numV M (bfN B) (wdN S k) (decide (tG S k 0 = 118)) (wdN S k))) (B + 8 * wdN S k) w
def spF : Nat → Nat → Int32 × Nat
  | 0, B => (0, B)
  | f + 1, B => if B % 8 = 0 then (0, B) else if bitAt M B = 0 then spF f (B + 1) else (2, B + 1)
def spRd (B : Nat) (_ : List Int64) : Int32 × Nat := spF M 7 B
end RDP
theorem spF_ok {M : Nat → Int32} : ∀ f B, B % 8 + f ≥ 8 ∨ B % 8 = 0 → ¬ (spF M f B).1 = 7 ∧ ((spF M f B).1 = 0 → B ≤ (spF M f B).2 ∧ (spF M f B).2 % 8 = 0 ∧ (spF M f B).2 ≤ B + f)
  | 0, B, h => ⟨show ¬ (0 : Int32) = 7 by decide, fun _ => ⟨Nat.le_refl _, by show B % 8 = 0; omega, Nat.le_refl _⟩⟩
  | f + 1, B, h => by
    unfold spF
    by_cases q : B % 8 = 0
    · rw [if_pos q]; exact ⟨show ¬ (0 : Int32) = 7 by decide, fun _ => ⟨Nat.le_refl _, q, by show B ≤ _; omega⟩⟩
    · rw [if_neg q]
      by_cases z : bitAt M B = 0
      · rw [if_pos z]
        obtain ⟨a, b⟩ := spF_ok (M := M) f (B + 1) (by omega)
        exact ⟨a, fun y => by have := b y; omega⟩
      · rw [if_neg z]; exact ⟨show ¬ (2 : Int32) = 7 by decide, fun y => absurd y (show ¬ (2 : Int32) = 0 by decide)⟩
theorem sok_rd {M : Nat → Int32} : SOk (spRd M) := fun B w => by
  obtain ⟨a, b⟩ := spF_ok (M := M) 7 B (by omega)
  refine ⟨a, fun y => ⟨(b y).1, (b y).2.1⟩, fun al => ?_⟩
  show spF M 7 B = _
  unfold spF
  rw [if_pos al]
theorem kpP_ok {S : Tb} {k B : Nat} {v : Int64} {w : List Int64} : ¬ (kpP S k v B w).1 = 7 ∧ ((kpP S k v B w).1 = 0 → (kpP S k v B w).2.1 = B ∧ ¬ (kpP S k v B w).2.2.2 < loT S k ∧ ¬ hiT S k < (kpP S k v B w).2.2.2) := by
  unfold kpP
  by_cases c : (v < loT S k ∨ hiT S k < v) ∨ ¬ w.length < 160
  · rw [if_pos c]; exact ⟨show ¬ (2 : Int32) = 7 by decide, fun y => absurd y (show ¬ (2 : Int32) = 0 by decide)⟩
  · rw [if_neg c]; exact ⟨show ¬ (0 : Int32) = 7 by decide, fun _ => ⟨rfl, fun z => c (Or.inl (Or.inl z)), fun z => c (Or.inl (Or.inr z))⟩⟩
theorem kbP_ok {M : Nat → Int32} {p m B : Nat} {w : List Int64} : ¬ (kbP M p m B w).1 = 7 ∧ ((kbP M p m B w).1 = 0 → (kbP M p m B w).2.1 = B) := by
  unfold kbP
  by_cases c : w.length + 1 + m ≤ 160
  · rw [if_pos c]; exact ⟨show ¬ (0 : Int32) = 7 by decide, fun _ => rfl⟩
  · rw [if_neg c]; exact ⟨show ¬ (2 : Int32) = 7 by decide, fun y => absurd y (show ¬ (2 : Int32) = 0 by decide)⟩
theorem wd_num {S : Tb} {k : Nat} (G : GdK S k) (hu : sz (tG S k 0) = true ∨ sm (tG S k 0) = true) (n112 : ¬ tG S k 0 = 112) (n114 : ¬ tG S k 0 = 114) (n122 : ¬ tG S k 0 = 122) : wdT S k = iv (wdN S k) ∧ 1 ≤ wdN S k ∧ wdN S k ≤ 8 := by
  unfold wdN wdT
  by_cases c : tG S k 0 = 102
  · rw [if_pos c]; exact ⟨rfl, by decide, by decide⟩
  · by_cases c2 : tG S k 0 = 100
    · rw [if_neg c, if_pos c2]; exact ⟨rfl, by decide, by decide⟩
    · rw [if_neg c, if_neg c2]
      have hz : sz (tG S k 0) = true := hu.resolve_right fun z => by
        unfold sm at z
        simp only [Bool.or_eq_true, decide_eq_true_iff] at z
        rcases z with ((z | z) | z) | z
        · exact c z
        · exact c2 z
        · exact n122 z
        · exact n114 z
      rw [if_pos hz]
      obtain ⟨a, b, c, -⟩ := dg_num' G hz
      exact ⟨a, b, by show dgN S k ≤ 8; omega⟩
theorem uok_rd {M : Nat → Int32} {L : Nat} {S : Tb} (T : TW S) : UOk S (URd M L S) := fun k B w hk hu => by
  have G := (T.2.2.1 k hk).1
  have one : ¬ ((1 : Int32), B, w, (0 : Int64)).1 = 7 ∧ ∀ {P : Prop}, ((1 : Int32), B, w, (0 : Int64)).1 = 0 → P := ⟨show ¬ (1 : Int32) = 7 by decide, fun {P} y => absurd y (show ¬ (1 : Int32) = 0 by decide)⟩
  have two : ¬ ((2 : Int32), B, w, (0 : Int64)).1 = 7 ∧ ∀ {P : Prop}, ((2 : Int32), B, w, (0 : Int64)).1 = 0 → P := ⟨show ¬ (2 : Int32) = 7 by decide, fun {P} y => absurd y (show ¬ (2 : Int32) = 0 by decide)⟩
  unfold URd
  by_cases c : tG S k 0 = 112
  · rw [if_pos c]
    by_cases q : 8 * L < B + dgN S k
    · rw [if_pos q]; exact ⟨one.1, one.2⟩
    · rw [if_neg q]
      obtain ⟨a, b⟩ := kpP_ok (S := S) (k := k) (B := B + dgN S k) (v := bitsV M B (dgN S k)) (w := w)
      have := (dg_num' G (by rw [c]; rfl)).2.1
      refine ⟨a, fun y => ?_⟩
      obtain ⟨b1, b2⟩ := b y
      rw [b1]
      exact ⟨by omega, fun _ => by omega, fun z => absurd c z, fun _ => b2⟩
  rw [if_neg c]
  by_cases c1 : tG S k 0 = 114
  · rw [if_pos c1]
    obtain ⟨a, b⟩ := kbP_ok (M := M) (p := bfN B) (m := L - bfN B) (B := B + 8 * (L - bfN B)) (w := w)
    refine ⟨a, fun y => ?_⟩
    rw [b y]
    refine ⟨by omega, fun z => ?_, fun _ z => by omega, fun z => by rw [c1] at z; cases z⟩
    have z := z.resolve_left c
    rw [me_eq T.1 hk] at z
    unfold locN at z
    rw [if_neg (by rw [c1]; decide), if_neg (by rw [c1]; decide), if_neg (by rw [c1]; decide), if_neg (by rw [c1]; decide), if_pos c1] at z
    exact absurd (show (0 : Nat) < 0 from z) (Nat.lt_irrefl 0)
  rw [if_neg c1]
  by_cases c2 : tG S k 0 = 122
  · rw [if_pos c2]
    by_cases q : 20 < wlF M (bfN B) (L - bfN B) 21 0
    · rw [if_pos q]; exact ⟨two.1, two.2⟩
    rw [if_neg q]
    by_cases q2 : wlF M (bfN B) (L - bfN B) 21 0 = L - bfN B
    · rw [if_pos q2]; exact ⟨one.1, one.2⟩
    rw [if_neg q2]
    obtain ⟨a, b⟩ := kbP_ok (M := M) (p := bfN B) (m := wlF M (bfN B) (L - bfN B) 21 0) (B := B + 8 * wlF M (bfN B) (L - bfN B) 21 0 + 8) (w := w)
    refine ⟨a, fun y => ?_⟩
    rw [b y]
    exact ⟨by omega, fun _ => by omega, fun _ z => by omega, fun z => by rw [c2] at z; cases z⟩
  rw [if_neg c2]
  obtain ⟨w1, w2, w3⟩ := wd_num G hu c c1 c2
  by_cases q : L < bfN B + wdN S k
  · rw [if_pos q]; exact ⟨one.1, one.2⟩
  · rw [if_neg q]
    obtain ⟨a, b⟩ := kpP_ok (S := S) (k := k) (B := B + 8 * wdN S k) (v := sgnV (tG S k 0) (wdN S k) (numV M (bfN B) (wdN S k) (decide (tG S k 0 = 118)) (wdN S k))) (w := w)
    refine ⟨a, fun y => ?_⟩
    obtain ⟨b1, b2⟩ := b y
    rw [b1]
    exact ⟨by omega, fun _ => by omega, fun _ z => by omega, fun _ => b2⟩
