/-! numbers of bytes, as the class and as the Model takes them -/
section NUMS
variable {M : Nat → Int32}
theorem jv_n64 {n : Nat} (h : n < 2 ^ 64) : (jv n).toBitVec.toNat = n := by
  show (BitVec.ofNat 64 n).toNat = n
  rw [BitVec.toNat_ofNat]; exact Nat.mod_eq_of_lt h
theorem shl8 : (8 : Int32).toInt64 &&& 63 = 8 := by decide +kernel
/-- the sum of the bytes, the first the highest -/
def hiN (f : Nat → Nat) : Nat → Nat
  | 0 => 0
  | j + 1 => hiN f j * 256 + f j
theorem hiN_lt {f : Nat → Nat} (hf : ∀ i, f i < 256) : ∀ j, hiN f j < 256 ^ j
  | 0 => Nat.one_pos
  | j + 1 => by
    have := hiN_lt hf j
    have := hf j
    unfold hiN
    rw [Nat.pow_succ]; omega
theorem or_hi {n b : Nat} (hn : n < 2 ^ 56) (hb : b < 256) : (jv n <<< ((8 : Int32).toInt64 &&& 63)) ||| jv b = jv (n * 256 + b) := by
  rw [shl8]
  apply Int64.toBitVec_inj.mp
  apply BitVec.eq_of_toNat_eq
  rw [Int64.toBitVec_or, BitVec.toNat_or, jv_n64 (n := n * 256 + b) (by omega), jv_n64 (n := b) (by omega), Int64.toBitVec_shiftLeft]
  have : ((8 : Int64).toBitVec.smod 64).toNat = 8 := by decide +kernel
  rw [BitVec.shiftLeft_eq', this, BitVec.toNat_shiftLeft, jv_n64 (by omega), Nat.mod_eq_of_lt (by rw [Nat.shiftLeft_eq]; omega), ← Nat.shiftLeft_add_eq_or_of_lt (by omega), Nat.shiftLeft_eq]
theorem numV_hi {f : Nat → Nat} {p w : Nat} {low : Bool} (hf : ∀ i, f i < 256) (e : ∀ j, j < w → M (p + if low = true then w - 1 - j else j) = iv (f j)) (hw : w ≤ 8) : ∀ j, j ≤ w → numV M p w low j = jv (hiN f j)
  | 0, _ => rfl
  | j + 1, h => by
    have l := hiN_lt hf j
    have l2 : 256 ^ j ≤ 256 ^ 7 := Nat.pow_le_pow_right (by decide) (by omega)
    have l3 : (256 : Nat) ^ 7 = 2 ^ 56 := by decide
    have l4 := hf j
    unfold numV hiN
    rw [numV_hi hf e hw j (by omega), e j (by omega), iv_jv (by omega), or_hi (by omega) l4]
/-- the Model's sum, the first the lowest -/
def loV (M : Nat → Int32) (p : Nat) : Nat → Int64
  | 0 => 0
  | j + 1 => loV M p j ||| ((M (p + j)).toInt64 <<< (((8 : Int32) * iv j).toInt64 &&& 63))
def loN (f : Nat → Nat) : Nat → Nat
  | 0 => 0
  | j + 1 => loN f j + f j * 256 ^ j
theorem loN_lt {f : Nat → Nat} (hf : ∀ i, f i < 256) : ∀ j, loN f j < 256 ^ j
  | 0 => Nat.one_pos
  | j + 1 => by
    have h1 := loN_lt hf j
    have h2 := hf j
    unfold loN
    rw [Nat.pow_succ]
    have : f j * 256 ^ j ≤ 255 * 256 ^ j := Nat.mul_le_mul_right _ (by omega)
    omega
theorem shl_j (j : Nat) (h : j < 8) : (Int64.toBitVec (((8 : Int32) * iv j).toInt64 &&& 63)).smod 64 = BitVec.ofNat 64 (8 * j) := by
  have : ∀ t : _root_.Fin 8, (Int64.toBitVec (((8 : Int32) * iv t.val).toInt64 &&& 63)).smod 64 = BitVec.ofNat 64 (8 * t.val) := by decide +kernel
  exact this ⟨j, h⟩
theorem loV_lo {f : Nat → Nat} {p w : Nat} (hf : ∀ i, f i < 256) (e : ∀ j, j < w → M (p + j) = iv (f j)) (hw : w ≤ 4) : ∀ j, j ≤ w → loV M p j = jv (loN f j)
  | 0, _ => rfl
  | j + 1, h => by
    have l := loN_lt hf j
    have l4 := hf j
    have l2 : 256 ^ j ≤ 256 ^ 3 := Nat.pow_le_pow_right (by decide) (by omega)
    have l3 : (256 : Nat) ^ 3 = 2 ^ 24 := by decide
    have l5 : f j * 256 ^ j ≤ 255 * 256 ^ j := Nat.mul_le_mul_right _ (by omega)
    have p8 : (2 : Nat) ^ (8 * j) = 256 ^ j := by rw [Nat.pow_mul]
    unfold loV loN
    rw [loV_lo hf e hw j (by omega), e j (by omega), iv_jv (by omega)]
    apply Int64.toBitVec_inj.mp
    apply BitVec.eq_of_toNat_eq
    rw [Int64.toBitVec_or, BitVec.toNat_or, jv_n64 (n := loN f j) (by omega), jv_n64 (n := loN f j + f j * 256 ^ j) (by omega), Int64.toBitVec_shiftLeft, BitVec.shiftLeft_eq', shl_j j (by omega), BitVec.toNat_ofNat, Nat.mod_eq_of_lt (by omega), BitVec.toNat_shiftLeft, jv_n64 (by omega), Nat.shiftLeft_eq, p8, Nat.mod_eq_of_lt (by omega), Nat.or_comm]
    rw [← p8, ← Nat.shiftLeft_eq, ← Nat.shiftLeft_add_eq_or_of_lt (by rw [p8]; exact l), Nat.add_comm]
theorem lo_hi {f : Nat → Nat} {w : Nat} (h1 : 1 ≤ w) (h4 : w ≤ 4) : hiN (fun j => f (w - 1 - j)) w = loN f w := by
  have : w = 1 ∨ w = 2 ∨ w = 3 ∨ w = 4 := by omega
  rcases this with rfl | rfl | rfl | rfl
  · show (0 * 256 + f 0) = 0 + f 0 * 256 ^ 0; omega
  · show ((0 * 256 + f 1) * 256 + f 0) = 0 + f 0 * 256 ^ 0 + f 1 * 256 ^ 1; omega
  · show (((0 * 256 + f 2) * 256 + f 1) * 256 + f 0) = 0 + f 0 * 256 ^ 0 + f 1 * 256 ^ 1 + f 2 * 256 ^ 2; omega
  · show ((((0 * 256 + f 3) * 256 + f 2) * 256 + f 1) * 256 + f 0) = 0 + f 0 * 256 ^ 0 + f 1 * 256 ^ 1 + f 2 * 256 ^ 2 + f 3 * 256 ^ 3; omega
theorem shlr {N k : Nat} {K : Int64} (hK : (K.toBitVec.smod 64).toNat = k) (hN : N < 2 ^ 64) : ((jv N <<< K) >>> K).toInt = ((N * 2 ^ k : Nat) : Int).bmod (2 ^ 64) / ((2 ^ k : Nat) : Int) := by
  show ((jv N <<< K) >>> K).toBitVec.toInt = _
  rw [Int64.toBitVec_shiftRight, Int64.toBitVec_shiftLeft]
  show (((jv N).toBitVec <<< (K.toBitVec.smod 64)).sshiftRight (K.toBitVec.smod 64).toNat).toInt = _
  rw [hK, BitVec.shiftLeft_eq', hK, BitVec.toInt_sshiftRight, BitVec.toInt_shiftLeft, jv_n64 hN, Int.shiftRight_eq_div_pow, Nat.shiftLeft_eq]
theorem sg_cond {N w : Nat} (h1 : 1 ≤ w) (h4 : w ≤ 4) (hN : N < 256 ^ w) : ((jv N >>> ((((8 : Int32) * iv w) - (1 : Int32)).toInt64 &&& 63)) &&& (1 : Int64)) = 1 ↔ 2 ^ (8 * w - 1) ≤ N := by
  have hk : (Int64.toBitVec ((((8 : Int32) * iv w) - (1 : Int32)).toInt64 &&& 63)).smod 64 = BitVec.ofNat 64 (8 * w - 1) := by
    have : ∀ t : _root_.Fin 5, 1 ≤ t.val → (Int64.toBitVec ((((8 : Int32) * iv t.val) - (1 : Int32)).toInt64 &&& 63)).smod 64 = BitVec.ofNat 64 (8 * t.val - 1) := by decide +kernel
    exact this ⟨w, by omega⟩ h1
  have l : 256 ^ w ≤ 256 ^ 4 := Nat.pow_le_pow_right (by decide) h4
  have l4 : (256 : Nat) ^ 4 = 2 ^ 32 := by decide
  have p : (256 : Nat) ^ w = 2 * 2 ^ (8 * w - 1) := by
    rw [show (256 : Nat) = 2 ^ 8 from rfl, ← Nat.pow_mul, ← Nat.pow_succ']; congr 1; omega
  have e : ((jv N >>> ((((8 : Int32) * iv w) - (1 : Int32)).toInt64 &&& 63)) &&& (1 : Int64)).toBitVec.toNat = N / 2 ^ (8 * w - 1) % 2 := by
    rw [Int64.toBitVec_and, BitVec.toNat_and, Int64.toBitVec_shiftRight]
    show ((jv N).toBitVec.sshiftRight (BitVec.smod _ 64).toNat).toNat &&& 1 = _
    rw [hk, BitVec.toNat_ofNat, Nat.mod_eq_of_lt (by omega), BitVec.sshiftRight_eq_of_msb_false, BitVec.toNat_ushiftRight, jv_n64 (by omega), Nat.shiftRight_eq_div_pow, Nat.and_one_is_mod]
    rw [BitVec.msb_eq_decide, jv_n64 (by omega)]
    exact decide_eq_false (by omega)
  rw [← Int64.toBitVec_inj, ← BitVec.toNat_inj, e]
  show _ = 1 ↔ _
  have q : N / 2 ^ (8 * w - 1) < 2 := Nat.div_lt_of_lt_mul (by rw [Nat.mul_comm]; omega)
  have pos : 0 < 2 ^ (8 * w - 1) := Nat.two_pow_pos _
  have r : 1 ≤ N / 2 ^ (8 * w - 1) ↔ 2 ^ (8 * w - 1) ≤ N := by rw [Nat.le_div_iff_mul_le pos, Nat.one_mul]
  rw [← r]
  generalize N / 2 ^ (8 * w - 1) = Q at q
  show Q % 2 = 1 ↔ 1 ≤ Q
  omega
theorem sgn_s {N w : Nat} (h1 : 1 ≤ w) (h4 : w ≤ 4) (hN : N < 256 ^ w) : sgnV 115 w (jv N) = if ((jv N >>> ((((8 : Int32) * iv w) - (1 : Int32)).toInt64 &&& 63)) &&& (1 : Int64)) = 1 then jv N - ((1 : Int64) <<< (((8 : Int32) * iv w).toInt64 &&& 63)) else jv N := by
  have c := sg_cond h1 h4 hN
  unfold sgnV
  rw [if_pos (by decide), ← Int64.toInt_inj]
  have w4 : w = 1 ∨ w = 2 ∨ w = 3 ∨ w = 4 := by omega
  rcases w4 with rfl | rfl | rfl | rfl
  · have hN : N < 256 := hN
    have c : _ ↔ 128 ≤ N := c
    rw [shlr (k := 56) (by decide +kernel) (by omega)]
    by_cases z : 128 ≤ N
    · have e : ((N * 2 ^ 56 : Nat) : Int).bmod (2 ^ 64) = ((N : Int) - 256) * 72057594037927936 := by
        rw [Int.bmod_def]; split <;> omega
      rw [if_pos (c.mpr z), e, show ((1 : Int64) <<< (((8 : Int32) * iv 1).toInt64 &&& 63)) = jv 256 from by decide +kernel, Int64.toInt_sub, jv_toInt (by omega), jv_toInt (by decide), Int.bmod_eq_of_le (by omega) (by omega)]
      omega
    · have e : ((N * 2 ^ 56 : Nat) : Int).bmod (2 ^ 64) = (N : Int) * 72057594037927936 := by
        rw [Int.bmod_def]; split <;> omega
      rw [if_neg (fun y => z (c.mp y)), e, jv_toInt (by omega)]
      omega
  · have hN : N < 65536 := hN
    have c : _ ↔ 32768 ≤ N := c
    rw [shlr (k := 48) (by decide +kernel) (by omega)]
    by_cases z : 32768 ≤ N
    · have e : ((N * 2 ^ 48 : Nat) : Int).bmod (2 ^ 64) = ((N : Int) - 65536) * 281474976710656 := by
        rw [Int.bmod_def]; split <;> omega
      rw [if_pos (c.mpr z), e, show ((1 : Int64) <<< (((8 : Int32) * iv 2).toInt64 &&& 63)) = jv 65536 from by decide +kernel, Int64.toInt_sub, jv_toInt (by omega), jv_toInt (by decide), Int.bmod_eq_of_le (by omega) (by omega)]
      omega
    · have e : ((N * 2 ^ 48 : Nat) : Int).bmod (2 ^ 64) = (N : Int) * 281474976710656 := by
        rw [Int.bmod_def]; split <;> omega
      rw [if_neg (fun y => z (c.mp y)), e, jv_toInt (by omega)]
      omega
  · have hN : N < 16777216 := hN
    have c : _ ↔ 8388608 ≤ N := c
    rw [shlr (k := 40) (by decide +kernel) (by omega)]
    by_cases z : 8388608 ≤ N
    · have e : ((N * 2 ^ 40 : Nat) : Int).bmod (2 ^ 64) = ((N : Int) - 16777216) * 1099511627776 := by
        rw [Int.bmod_def]; split <;> omega
      rw [if_pos (c.mpr z), e, show ((1 : Int64) <<< (((8 : Int32) * iv 3).toInt64 &&& 63)) = jv 16777216 from by decide +kernel, Int64.toInt_sub, jv_toInt (by omega), jv_toInt (by decide), Int.bmod_eq_of_le (by omega) (by omega)]
      omega
    · have e : ((N * 2 ^ 40 : Nat) : Int).bmod (2 ^ 64) = (N : Int) * 1099511627776 := by
        rw [Int.bmod_def]; split <;> omega
      rw [if_neg (fun y => z (c.mp y)), e, jv_toInt (by omega)]
      omega
  · have hN : N < 4294967296 := hN
    have c : _ ↔ 2147483648 ≤ N := c
    rw [shlr (k := 32) (by decide +kernel) (by omega)]
    by_cases z : 2147483648 ≤ N
    · have e : ((N * 2 ^ 32 : Nat) : Int).bmod (2 ^ 64) = ((N : Int) - 4294967296) * 4294967296 := by
        rw [Int.bmod_def]; split <;> omega
      rw [if_pos (c.mpr z), e, show ((1 : Int64) <<< (((8 : Int32) * iv 4).toInt64 &&& 63)) = jv 4294967296 from by decide +kernel, Int64.toInt_sub, jv_toInt (by omega), jv_toInt (by decide), Int.bmod_eq_of_le (by omega) (by omega)]
      omega
    · have e : ((N * 2 ^ 32 : Nat) : Int).bmod (2 ^ 64) = (N : Int) * 4294967296 := by
        rw [Int.bmod_def]; split <;> omega
      rw [if_neg (fun y => z (c.mp y)), e, jv_toInt (by omega)]
      omega
theorem sgn_f {N : Nat} (hN : N < 4294967296) : sgnV 102 4 (jv N) = (jv N).toInt32.toInt64 := by
  unfold sgnV
  rw [if_pos (by decide), ← Int64.toInt_inj, shlr (k := 32) (by decide +kernel) (by omega), Int32.toInt_toInt64, Int64.toInt_toInt32, jv_toInt (by omega)]
  by_cases z : 2147483648 ≤ N
  · have e : ((N * 2 ^ 32 : Nat) : Int).bmod (2 ^ 64) = ((N : Int) - 4294967296) * 4294967296 := by
      rw [Int.bmod_def]; split <;> omega
    have e2 : (N : Int).bmod (2 ^ 32) = (N : Int) - 4294967296 := by
      rw [Int.bmod_def]; split <;> omega
    rw [e, e2]; omega
  · have e : ((N * 2 ^ 32 : Nat) : Int).bmod (2 ^ 64) = (N : Int) * 4294967296 := by
      rw [Int.bmod_def]; split <;> omega
    have e2 : (N : Int).bmod (2 ^ 32) = (N : Int) := by
      rw [Int.bmod_def]; split <;> omega
    rw [e, e2]; omega
theorem sgn_d {v : Int64} : sgnV 100 8 v = v := by
  unfold sgnV
  rw [if_pos (by decide), show ((iv (64 - 8 * 8)).toInt64 &&& 63) = 0 from by decide +kernel]
  have a : v <<< (0 : Int64) = v := by
    apply Int64.toBitVec_inj.mp
    rw [Int64.toBitVec_shiftLeft, show (Int64.toBitVec 0).smod 64 = 0 from by decide +kernel]
    show v.toBitVec <<< (0 : BitVec 64) = _
    rw [BitVec.shiftLeft_eq']; exact BitVec.shiftLeft_zero _
  have b : v >>> (0 : Int64) = v := by
    apply Int64.toBitVec_inj.mp
    rw [Int64.toBitVec_shiftRight]
    show v.toBitVec.sshiftRight (BitVec.smod (Int64.toBitVec 0) 64).toNat = _
    rw [show (BitVec.smod (Int64.toBitVec 0) 64).toNat = 0 from by decide +kernel, BitVec.sshiftRight_zero]
  rw [a, b]
end NUMS
