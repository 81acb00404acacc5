/-! numbers of bytes, as the class and as the Model takes them -/
section NUMS
variable {M : Nat → Int32}
theorem jv_n64 {n : Nat} (h : n < 2 ^ 64) : (jv n).toBitVec.toNat = n := by
  show (BitVec.ofNat 64 n).toNat = n
  rw [BitVec.toNat_ofNat]; exact Nat.mod_eq_of_lt h
theorem shl8 : (8 : Int32).toInt64 &&& 63 = 8 := by decide +kernel
/-- the sum of the bytes, the first the highest -/
def hiN (f : Nat → Nat) : Nat → Nat
  | 0 => 0
  | j + 1 => hiN f j * 256 + f j
theorem hiN_lt {f : Nat → Nat} (hf : ∀ i, f i < 256) : ∀ j, hiN f j < 256 ^ j
  | 0 => Nat.one_pos
  | j + 1 => by
    have := hiN_lt hf j
    have := hf j
    unfold hiN
    rw [Nat.pow_succ]; omega
theorem or_hi {n b : Nat} (hn : n < 2 ^ 56) (hb : b < 256) : (jv n <<< ((8 : Int32).toInt64 &&& 63)) ||| jv b = jv (n * 256 + b) := by
  rw [shl8]
  apply Int64.toBitVec_inj.mp
  apply BitVec.eq_of_toNat_eq
  rw [Int64.toBitVec_or, BitVec.toNat_or, jv_n64 (n := n * 256 + b) (by omega), jv_n64 (n := b) (by omega), Int64.toBitVec_shiftLeft]
  have : ((8 : Int64).toBitVec.smod 64).toNat = 8 := by decide +kernel
  rw [BitVec.shiftLeft_eq', this, BitVec.toNat_shiftLeft, jv_n64 (by omega), Nat.mod_eq_of_lt (by rw [Nat.shiftLeft_eq]; omega), ← Nat.shiftLeft_add_eq_or_of_lt (by omega), Nat.shiftLeft_eq]
theorem numV_hi {f : Nat → Nat} {p w : Nat} {low : Bool} (hf : ∀ i, f i < 256) (e : ∀ j, j < w → M (p + if low = true then w - 1 - j else j) = iv (f j)) (hw : w ≤ 8) : ∀ j, j ≤ w → numV M p w low j = jv (hiN f j)
  | 0, _ => rfl
  | j + 1, h => by
    have l := hiN_lt hf j
    have l2 : 256 ^ j ≤ 256 ^ 7 := Nat.pow_le_pow_right (by decide) (by omega)
    have l3 : (256 : Nat) ^ 7 = 2 ^ 56 := by decide
    have l4 := hf j
    unfold numV hiN
    rw [numV_hi hf e hw j (by omega), e j (by omega), iv_jv (by omega), or_hi (by omega) l4]
/-- the Model's sum, the first the lowest -/
def loV (M : Nat → Int32) (p : Nat) : Nat → Int64
  | 0 => 0
  | j + 1 => loV M p j ||| ((M (p + j)).toInt64 <<< (((8 : Int32) * iv j).toInt64 &&& 63))
def loN (f : Nat → Nat) : Nat → Nat
  | 0 => 0
  | j + 1 => loN f j + f j * 256 ^ j
theorem loN_lt {f : Nat → Nat} (hf : ∀ i, f i < 256) : ∀ j, loN f j < 256 ^ j
  | 0 => Nat.one_pos
  | j + 1 => by
    have h1 := loN_lt hf j
    have h2 := hf j
    unfold loN
    rw [Nat.pow_succ]
    have : f j * 256 ^ j ≤ 255 * 256 ^ j := Nat.mul_le_mul_right _ (by omega)
    omega
theorem shl_j (j : Nat) (h : j < 8) : (Int64.toBitVec (((8 : Int32) * iv j).toInt64 &&& 63)).smod 64 = BitVec.ofNat 64 (8 * j) := by
  have : ∀ t : _root_.Fin 8, (Int64.toBitVec (((8 : Int32) * iv t.val).toInt64 &&& 63)).smod 64 = BitVec.ofNat 64 (8 * t.val) := by decide +kernel
  exact this ⟨j, h⟩
theorem loV_lo {f : Nat → Nat} {p w : Nat} (hf : ∀ i, f i < 256) (e : ∀ j, j < w → M (p + j) = iv (f j)) (hw : w ≤ 4) : ∀ j, j ≤ w → loV M p j = jv (loN f j)
  | 0, _ => rfl
  | j + 1, h => by
    have l := loN_lt hf j
    have l4 := hf j
    have l2 : 256 ^ j ≤ 256 ^ 3 := Nat.pow_le_pow_right (by decide) (by omega)
    have l3 : (256 : Nat) ^ 3 = 2 ^ 24 := by decide
    have l5 : f j * 256 ^ j ≤ 255 * 256 ^ j := Nat.mul_le_mul_right _ (by omega)
    have p8 : (2 : Nat) ^ (8 * j) = 256 ^ j := by rw [Nat.pow_mul]
    unfold loV loN
    rw [loV_lo hf e hw j (by omega), e j (by omega), iv_jv (by omega)]
    apply Int64.toBitVec_inj.mp
    apply BitVec.eq_of_toNat_eq
    rw [Int64.toBitVec_or, BitVec.toNat_or, jv_n64 (n := loN f j) (by omega), jv_n64 (n := loN f j + f j * 256 ^ j) (by omega), Int64.toBitVec_shiftLeft, BitVec.shiftLeft_eq', shl_j j (by omega), BitVec.toNat_ofNat, Nat.mod_eq_of_lt (by omega), BitVec.toNat_shiftLeft, jv_n64 (by omega), Nat.shiftLeft_eq, p8, Nat.mod_eq_of_lt (by omega), Nat.or_comm]
    rw [← p8, ← Nat.shiftLeft_eq, ← Nat.shiftLeft_add_eq_or_of_lt (by rw [p8]; exact l), Nat.add_comm]
theorem lo_hi {f : Nat → Nat} {w : Nat} (h1 : 1 ≤ w) (h4 : w ≤ 4) : hiN (fun j => f (w - 1 - j)) w = loN f w := by
  have : w = 1 ∨ w = 2 ∨ w = 3 ∨ w = 4 := by omega
  rcases this with rfl | rfl | rfl | rfl
  · show (0 * 256 + f 0) = 0 + f 0 * 256 ^ 0; omega
  · show ((0 * 256 + f 1) * 256 + f 0) = 0 + f 0 * 256 ^ 0 + f 1 * 256 ^ 1; omega
  · show (((0 * 256 + f 2) * 256 + f 1) * 256 + f 0) = 0 + f 0 * 256 ^ 0 + f 1 * 256 ^ 1 + f 2 * 256 ^ 2; omega
  · show ((((0 * 256 + f 3) * 256 + f 2) * 256 + f 1) * 256 + f 0) = 0 + f 0 * 256 ^ 0 + f 1 * 256 ^ 1 + f 2 * 256 ^ 2 + f 3 * 256 ^ 3; omega
end NUMS
