theorem bb_ (b : BitVec 64) (s : Nat) (hs : s ≤ 56) : ((b >>> s).setWidth 32 &&& 255#32) = ((b.sshiftRight s).setWidth 32 &&& 255#32) := by
  apply BitVec.eq_of_getLsbD_eq
  intro i hi
  have e255 : (255#32).getLsbD i = decide (i < 8) := by
    rw [BitVec.getLsbD_ofNat, show (255 : Nat) = 2 ^ 8 - 1 from rfl, Nat.testBit_two_pow_sub_one]
    simp; omega
  rw [BitVec.getLsbD_and, BitVec.getLsbD_and, e255, BitVec.getLsbD_setWidth, BitVec.getLsbD_setWidth, BitVec.getLsbD_ushiftRight, BitVec.getLsbD_sshiftRight]
  by_cases c : i < 8
  · have h1 : s + i < 64 := by omega
    have h2 : i < 64 := by omega
    simp [c, h1, h2, hi]
  · simp [c]
theorem bc_ (x : Int64) (s : Nat) (hs : s ≤ 56) : ((x.toUInt64 >>> UInt64.ofNat s).toInt64.toInt32 &&& 255 : Int32) = ((x >>> Int64.ofNat s).toInt32 &&& 255) := by
  apply Int32.toBitVec_inj.mp
  have h1 : (x.toUInt64 >>> UInt64.ofNat s).toInt64.toBitVec = x.toBitVec >>> s := by
    show (x.toUInt64 >>> UInt64.ofNat s).toBitVec = _
    rw [UInt64.toBitVec_shiftRight]
    show x.toBitVec >>> ((UInt64.ofNat s).toBitVec % 64#64) = _
    have : ((UInt64.ofNat s).toBitVec % 64#64).toNat = s := by
      rw [BitVec.toNat_umod]
      show (UInt64.ofNat s).toNat % 64 = s
      rw [UInt64.toNat_ofNat_of_lt' (by show s < 2 ^ 64; omega)]; omega
    rw [BitVec.ushiftRight_eq', this]
  have h2 : (x >>> Int64.ofNat s).toBitVec = x.toBitVec.sshiftRight s := by
    rw [Int64.toBitVec_shiftRight]
    have : ((Int64.ofNat s).toBitVec.smod 64#64).toNat = s := by
      have q : (Int64.ofNat s).toBitVec = BitVec.ofNat 64 s := rfl
      rw [q]
      have key : ∀ t : _root_.Fin 57, ((BitVec.ofNat 64 t.val).smod 64#64).toNat = t.val := by decide +kernel
      exact key ⟨s, by omega⟩
    show x.toBitVec.sshiftRight ((Int64.ofNat s).toBitVec.smod 64#64).toNat = _
    rw [this]
  rw [Int32.toBitVec_and, Int32.toBitVec_and, Int64.toBitVec_toInt32, Int64.toBitVec_toInt32, h1, h2, BitVec.signExtend_eq_setWidth_of_le _ (by decide), BitVec.signExtend_eq_setWidth_of_le _ (by decide)]
  exact bb_ _ s hs
/-- a byte of a long, as the class and as the Model takes it -/
theorem byte_eq (x : Int64) (k : Nat) (hk : k < 8) : ((((x.toUInt64 >>> ((iv (8 * k)).toInt64.toUInt64 &&& Int64.toUInt64 63)).toInt64).toInt32) &&& (255 : Int32)) = (((x >>> (((8 : Int32) * iv k).toInt64 &&& 63)).toInt32) &&& (255 : Int32)) := by
  have h1 : (iv (8 * k)).toInt64.toUInt64 &&& Int64.toUInt64 63 = UInt64.ofNat (8 * k) := by
    have : ∀ t : _root_.Fin 8, (iv (8 * t.val)).toInt64.toUInt64 &&& Int64.toUInt64 63 = UInt64.ofNat (8 * t.val) := by decide +kernel
    exact this ⟨k, hk⟩
  have h2 : ((8 : Int32) * iv k).toInt64 &&& 63 = Int64.ofNat (8 * k) := by
    have : ∀ t : _root_.Fin 8, ((8 : Int32) * iv t.val).toInt64 &&& 63 = Int64.ofNat (8 * t.val) := by decide +kernel
    exact this ⟨k, hk⟩
  rw [h1, h2]
  exact bc_ x (8 * k) (by omega)
/-- a byte is kept as a byte -/
theorem byte_keep (y : Int32) : ((y &&& 255).toInt8.toInt32 &&& 255) = (y &&& 255) := by
  apply Int32.toBitVec_inj.mp
  rw [Int32.toBitVec_and, Int32.toBitVec_and, Int8.toBitVec_toInt32, Int32.toBitVec_toInt8, Int32.toBitVec_and]
  apply BitVec.eq_of_getLsbD_eq
  intro i hi
  have e255 : (255#32).getLsbD i = decide (i < 8) := by
    rw [BitVec.getLsbD_ofNat, show (255 : Nat) = 2 ^ 8 - 1 from rfl, Nat.testBit_two_pow_sub_one]
    simp; omega
  have f255 : (Int32.toBitVec 255).getLsbD i = decide (i < 8) := e255
  rw [BitVec.getLsbD_and, BitVec.getLsbD_and, f255]
  by_cases c : i < 8
  · rw [BitVec.getLsbD_signExtend, BitVec.signExtend_eq_setWidth_of_le _ (by decide), BitVec.getLsbD_setWidth, BitVec.getLsbD_and, f255]
    simp [c, hi]
  · simp [c]
