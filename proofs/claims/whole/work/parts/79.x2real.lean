/-! the parts of a double's bits, as the class and as the Model takes them -/
def eN (X : Int64) : Nat := X.toBitVec.toNat / 2 ^ 52 % 2048
def fN (X : Int64) : Nat := X.toBitVec.toNat % 2 ^ 52
theorem eN_lt (X : Int64) : eN X < 2048 := Nat.mod_lt _ (by decide)
theorem fN_lt (X : Int64) : fN X < 4503599627370496 := Nat.mod_lt _ (by decide)
theorem fb_ (b : BitVec 64) : (b.sshiftRight 52 &&& 2047#64) = (b >>> 52 &&& 2047#64) := by
  apply BitVec.eq_of_getLsbD_eq
  intro i hi
  have e2047 : (2047#64).getLsbD i = decide (i < 11) := by
    rw [BitVec.getLsbD_ofNat, show (2047 : Nat) = 2 ^ 11 - 1 from rfl, Nat.testBit_two_pow_sub_one]
    simp; omega
  rw [BitVec.getLsbD_and, BitVec.getLsbD_and, e2047, BitVec.getLsbD_ushiftRight, BitVec.getLsbD_sshiftRight]
  by_cases c : i < 11
  · have h1 : 52 + i < 64 := by omega
    simp [c, h1]
    omega
  · simp [c]
theorem fb_nat (b : BitVec 64) : (b >>> 52 &&& 2047#64).toNat = b.toNat / 2 ^ 52 % 2048 := by
  rw [BitVec.toNat_and, BitVec.toNat_ushiftRight, show (2047#64 : BitVec 64).toNat = 2 ^ 11 - 1 from rfl, Nat.and_two_pow_sub_one_eq_mod, Nat.shiftRight_eq_div_pow]
theorem jv_nat {n : Nat} (h : n < 2 ^ 63) : (jv n).toBitVec.toNat = n := by
  show (BitVec.ofNat 64 n).toNat = n
  rw [BitVec.toNat_ofNat]; exact Nat.mod_eq_of_lt (by omega)
theorem iv_nat {n : Nat} (h : n < 2 ^ 31) : (iv n).toBitVec.toNat = n := by
  show (BitVec.ofNat 32 n).toNat = n
  rw [BitVec.toNat_ofNat]; exact Nat.mod_eq_of_lt (by omega)
theorem frac_ (X : Int64) : X &&& (4503599627370495 : Int64) = jv (fN X) := by
  apply Int64.toBitVec_inj.mp
  apply BitVec.eq_of_toNat_eq
  rw [jv_nat (by have := fN_lt X; omega), Int64.toBitVec_and, BitVec.toNat_and, show (Int64.toBitVec 4503599627370495).toNat = 2 ^ 52 - 1 from rfl, Nat.and_two_pow_sub_one_eq_mod]
  rfl
theorem sh_u (X : Int64) : (X.toUInt64 >>> ((52 : Int32).toInt64.toUInt64 &&& Int64.toUInt64 63)).toInt64.toBitVec = X.toBitVec >>> 52 := by
  have q : (52 : Int32).toInt64.toUInt64 &&& Int64.toUInt64 63 = UInt64.ofNat 52 := by decide +kernel
  rw [q]
  show (X.toUInt64 >>> UInt64.ofNat 52).toBitVec = _
  rw [UInt64.toBitVec_shiftRight]
  show X.toBitVec >>> ((UInt64.ofNat 52).toBitVec % 64#64) = _
  have : ((UInt64.ofNat 52).toBitVec % 64#64).toNat = 52 := by decide +kernel
  rw [BitVec.ushiftRight_eq', this]
theorem sh_s (X : Int64) : (X >>> ((52 : Int32).toInt64 &&& 63)).toBitVec = X.toBitVec.sshiftRight 52 := by
  have q : (52 : Int32).toInt64 &&& 63 = Int64.ofNat 52 := by decide +kernel
  rw [q, Int64.toBitVec_shiftRight]
  show X.toBitVec.sshiftRight ((Int64.ofNat 52).toBitVec.smod 64#64).toNat = _
  have : ((Int64.ofNat 52).toBitVec.smod 64#64).toNat = 52 := by decide +kernel
  rw [this]
theorem exp_m (X : Int64) : ((X >>> ((52 : Int32).toInt64 &&& 63)) &&& (2047 : Int64)) = jv (eN X) := by
  apply Int64.toBitVec_inj.mp
  apply BitVec.eq_of_toNat_eq
  rw [jv_nat (by have := eN_lt X; omega), Int64.toBitVec_and, sh_s]
  show (X.toBitVec.sshiftRight 52 &&& 2047#64).toNat = _
  rw [fb_, fb_nat]; rfl
theorem exp_c (X : Int64) : ((((X.toUInt64 >>> ((52 : Int32).toInt64.toUInt64 &&& Int64.toUInt64 63)).toInt64).toInt32) &&& (2047 : Int32)) = iv (eN X) := by
  apply Int32.toBitVec_inj.mp
  apply BitVec.eq_of_toNat_eq
  rw [iv_nat (by have := eN_lt X; omega), Int32.toBitVec_and, Int64.toBitVec_toInt32, sh_u, BitVec.signExtend_eq_setWidth_of_le _ (by decide), BitVec.toNat_and, BitVec.toNat_setWidth, BitVec.toNat_ushiftRight, show (Int32.toBitVec 2047).toNat = 2 ^ 11 - 1 from rfl, Nat.and_two_pow_sub_one_eq_mod, Nat.shiftRight_eq_div_pow]
  show _ % 2 ^ 32 % 2 ^ 11 = X.toBitVec.toNat / 2 ^ 52 % 2048
  omega
theorem jv_i32 {n : Nat} (h : n < 2 ^ 31) : (jv n).toInt32 = iv n := by
  apply Int32.toBitVec_inj.mp
  apply BitVec.eq_of_toNat_eq
  rw [iv_nat h, Int64.toBitVec_toInt32, BitVec.signExtend_eq_setWidth_of_le _ (by decide), BitVec.toNat_setWidth, jv_nat (by omega)]
  exact Nat.mod_eq_of_lt (by omega)
/-- doubled or halved as the exponent says -/
def scal (e : Nat) (x : UInt64) : UInt64 := if 1075 ≤ e then itm 4611686018427387904 (e - 1075) x else itm 4602678819172646912 (1075 - max e 1) x
theorem scal_neg {e : Nat} {x : UInt64} : scal e (FP.Core.dneg x) = FP.Core.dneg (scal e x) := by
  unfold scal
  split
  · exact itm_neg _ _
  · exact itm_neg _ _
theorem nn_scal {e : Nat} {x : UInt64} (h : nn x) : nn (scal e x) := by
  unfold scal
  split
  · exact nn_itm val2 _ _ h
  · exact nn_itm valh _ _ h
theorem ng0 : ng 0 = 0 := by decide
theorem nn_inf : nn 9218868437227405312 := by unfold nn; decide +kernel
/-- what the fraction stands for -/
def base (X : Int64) : UInt64 := if eN X = 0 then FP.l2d (jv (fN X)) else FP.l2d (jv (fN X) + 4503599627370496)
theorem nn_base (X : Int64) : nn (base X) := by
  obtain ⟨-, a, b⟩ := l2d_add (fN_lt X)
  unfold base
  split
  · exact a
  · exact b
def dC (X : Int64) : UInt64 := if eN X = 2047 ∧ ¬ fN X = 0 then 0 else scal (eN X) (if X < 0 then FP.Core.dneg (base X) else base X)
def dM (X : Int64) : UInt64 := if eN X = 2047 then (if fN X = 0 then (if X < 0 then FP.dneg 9218868437227405312 else 9218868437227405312) else 0) else if X < 0 then FP.dneg (scal (eN X) (base X)) else scal (eN X) (base X)
section FPM
variable {d : Nat} {h : Hp}
theorem cls_pow {K : UInt64 → Hp → Prop} {e : Nat} (he : e < 2048) {y0 y1 y2 y3 y4 : Option Value} {x : UInt64} (hx : nn x) (k : K (scal e x) h) : Wp d m_Ff_doubleOf 75 [y0, y1, y2, y3, y4, some (.double x), none, some (.int ((if iv e < 1 then 1 else iv e) - 1075)), some (.int 0)] [] h (QD K) := by
  have p : (if iv e < 1 then 1 else iv e) - 1075 = iv (max e 1) - iv 1075 := by
    by_cases c : e = 0
    · subst c; rfl
    · rw [if_neg (fun z => by have := (iv_lt (a := e) (b := 1) (by omega) (by omega)).mp z; omega), show max e 1 = e by omega]; rfl
  rw [p]
  unfold scal at k
  by_cases c : 1075 ≤ e
  · rw [if_pos c] at k
    rw [iv_sub (by omega), show max e 1 - 1075 = e - 1075 by omega, show (0 : Int32) = iv 0 from rfl]
    refine cls_up (by omega) (e - 1075) 0 _ _ (by omega) hx fun y4 => ?_
    refine w_Ff_doubleOf_99 ?_
    rw [if_neg (fun z => by have := (iv_lt (a := e - 1075) (b := 0) (by omega) (by omega)).mp z; omega)]
    exact k
  · rw [if_neg c] at k
    rw [ng_sub (by omega) (by omega)]
    refine w_Ff_doubleOf_75 ?_
    have hn : ¬ (0 : Int32) < ng (1075 - max e 1) := fun z => by
      rw [← ng0] at z
      have := (ng_lt (a := 0) (b := 1075 - max e 1) (by omega) (by omega)).mp z; omega
    rw [if_neg hn]
    have q := cls_dn (d := d) (h := h) (K := K) (y0 := y0) (y1 := y1) (y2 := y2) (y3 := y3) (D := 1075 - max e 1) (by omega) (1075 - max e 1) 0 x y4 (by omega) hx k
    rw [ng0] at q; exact q
theorem mod_pow {K : UInt64 → Hp → Prop} {e : Nat} (he : e < 2048) {y0 y1 y6 y7 y10 y11 : Option Value} {x2 : Int64} {x : UInt64} (hx : nn x) (k : K (if x2 < 0 then FP.dneg (scal e x) else scal e x) h) : Wp (d + 1) m_Mo_real 110 [y0, y1, some (.long x2), none, some (.long (jv e)), none, y6, y7, some (.double x), none, y10, y11] [] h (QD K) := by
  refine w_Mo_real_110 ?_
  have z : jv e = (0 : Int64) ↔ e = 0 := jv_inj (a := e) (b := 0) (by omega) (by omega)
  have p : ∀ y4 y5, Wp (d + 1) m_Mo_real 135 [y0, y1, some (.long x2), none, y4, y5, y6, y7, some (.double x), none, some (.int (iv (max e 1) - iv 1075)), some (.int 0)] [] h (QD K) := by
    intro y4 y5
    unfold scal at k
    by_cases c : 1075 ≤ e
    · rw [if_pos c] at k
      rw [iv_sub (by omega), show max e 1 - 1075 = e - 1075 by omega, show (0 : Int32) = iv 0 from rfl]
      refine mod_up (by omega) (e - 1075) 0 _ _ (by omega) hx fun y7 => ?_
      refine w_Mo_real_159 ?_
      rw [if_neg (fun z => by have := (iv_lt (a := e - 1075) (b := 0) (by omega) (by omega)).mp z; omega)]
      by_cases c : x2 < 0
      · rw [if_pos c] at k ⊢; exact k
      · rw [if_neg c] at k ⊢; exact k
    · rw [if_neg c] at k
      rw [ng_sub (by omega) (by omega)]
      refine w_Mo_real_135 ?_
      have hn : ¬ (0 : Int32) < ng (1075 - max e 1) := fun z => by
        rw [← ng0] at z
        have := (ng_lt (a := 0) (b := 1075 - max e 1) (by omega) (by omega)).mp z; omega
      rw [if_neg hn]
      have q := mod_dn (d := d) (h := h) (K := K) (y0 := y0) (y1 := y1) (y4 := y4) (y5 := y5) (y6 := y6) (x2 := x2) (D := 1075 - max e 1) (by omega) (1075 - max e 1) 0 x y7 (by omega) hx k
      rw [ng0] at q; exact q
  by_cases c : e = 0
  · rw [if_pos (z.mpr c)]
    rintro _ rfl
    have := p (some (.long (jv e))) none
    rw [c] at this ⊢
    exact this
  · rw [if_neg (fun q => c (z.mp q))]
    rintro _ rfl
    rw [jv_i32 (by omega), iv1, iv_sub (by omega), show iv (e - 1) - (1074 : Int32) = iv (max e 1) - iv 1075 from ?_]
    · exact p _ _
    · rw [show max e 1 = (e - 1) + 1 by omega, ← iv_add, show iv 1075 = iv 1074 + iv 1 by decide]
      show _ = iv (e - 1) + iv 1 - (iv 1074 + iv 1)
      rw [← Int32.toInt_inj]
      simp only [Int32.toInt_sub, Int32.toInt_add, iv_toInt (n := e - 1) (by omega), iv_toInt (n := 1) (by omega), iv_toInt (n := 1074) (by omega), show (1074 : Int32).toInt = 1074 by decide]
      rw [Int.bmod_eq_of_le (n := ((e - 1 : Nat) : Int) - 1074) (by omega) (by omega), Int.bmod_eq_of_le (n := ((e - 1 : Nat) : Int) + (1 : Nat)) (by omega) (by omega), Int.bmod_eq_of_le (n := ((1074 : Nat) : Int) + (1 : Nat)) (by omega) (by omega), Int.bmod_eq_of_le (by omega) (by omega)]
      omega
theorem c_doubleOf {K : UInt64 → Hp → Prop} (X : Int64) (k : K (dC X) h) : Ca d m_Ff_doubleOf [.long X] h (QD K) := by
  refine w_Ff_doubleOf ?_
  rintro _ rfl _ rfl
  rw [exp_c, frac_]
  have he := eN_lt X
  have hf := fN_lt X
  have z1 : iv (eN X) = (2047 : Int32) ↔ eN X = 2047 := iv_inj (a := eN X) (b := 2047) (by omega) (by omega)
  have z2 : jv (fN X) = (0 : Int64) ↔ fN X = 0 := jv_inj (a := fN X) (b := 0) (by omega) (by omega)
  have z3 : iv (eN X) = (0 : Int32) ↔ eN X = 0 := iv_inj (a := eN X) (b := 0) (by omega) (by omega)
  unfold dC at k
  by_cases c : eN X = 2047 ∧ ¬ fN X = 0
  · rw [if_pos c] at k
    rw [if_pos (z1.mpr c.1), if_neg (fun q => c.2 (z2.mp q))]
    exact k
  · rw [if_neg c] at k
    have w : Wp d m_Ff_doubleOf 31 [some (.long X), none, some (.int (iv (eN X))), some (.long (jv (fN X))), none, none, none, none, none] [] h (QD K) := by
      refine w_Ff_doubleOf_31 ?_
      have nb := nn_base X
      unfold base at k nb
      by_cases e0 : eN X = 0
      · rw [if_pos e0] at k nb
        rw [if_pos (z3.mpr e0)]
        rintro _ rfl
        by_cases cn : X < 0
        · rw [if_pos cn] at k
          rw [if_pos cn, mul_m1 nb]
          refine ⟨nn_ok (nn_neg nb), ?_⟩
          rintro _ rfl _ rfl
          exact cls_pow he (nn_neg nb) k
        · rw [if_neg cn] at k
          rw [if_neg cn]
          rintro _ rfl
          exact cls_pow he nb k
      · rw [if_neg e0] at k nb
        rw [if_neg (fun q => e0 (z3.mp q))]
        rintro _ rfl
        by_cases cn : X < 0
        · rw [if_pos cn] at k
          rw [if_pos cn, mul_m1 nb]
          refine ⟨nn_ok (nn_neg nb), ?_⟩
          rintro _ rfl _ rfl
          exact cls_pow he (nn_neg nb) k
        · rw [if_neg cn] at k
          rw [if_neg cn]
          rintro _ rfl
          exact cls_pow he nb k
    by_cases e1 : eN X = 2047
    · rw [if_pos (z1.mpr e1), if_pos (z2.mpr (Classical.byContradiction fun q => c ⟨e1, q⟩))]; exact w
    · rw [if_neg (fun q => e1 (z1.mp q))]; exact w
theorem mo_real66 {K : UInt64 → Hp → Prop} {y0 y1 y8 y9 y10 y11 : Option Value} (X : Int64) (hn : ¬ (eN X = 2047 ∧ ¬ fN X = 0)) (k : K (dM X) h) : Wp (d + 1) m_Mo_real 66 [y0, y1, some (.long X), none, some (.long (jv (eN X))), none, some (.long (jv (fN X))), none, y8, y9, y10, y11] [] h (QD K) := by
  refine w_Mo_real_66 ?_
  have he := eN_lt X
  have hf := fN_lt X
  have z1 : jv (eN X) = (2047 : Int64) ↔ eN X = 2047 := jv_inj (a := eN X) (b := 2047) (by omega) (by omega)
  have z2 : jv (eN X) < (2047 : Int64) ↔ eN X < 2047 := jv_lt (a := eN X) (b := 2047) (by omega) (by omega)
  have z3 : (0 : Int64) < jv (eN X) ↔ 0 < eN X := jv_lt (a := 0) (b := eN X) (by omega) (by omega)
  unfold dM at k
  by_cases e1 : eN X = 2047
  · rw [if_pos e1, if_pos (Classical.byContradiction fun q => hn ⟨e1, q⟩)] at k
    rw [if_pos (z1.mpr e1), if_neg (fun q => by have := z2.mp q; omega)]
    by_cases c : X < 0
    · rw [if_pos c] at k ⊢; exact k
    · rw [if_neg c] at k ⊢; exact k
  · rw [if_neg e1] at k
    rw [if_neg (fun q => e1 (z1.mp q))]
    rintro _ rfl
    rw [if_pos (z2.mpr (by omega))]
    have nb := nn_base X
    unfold base at k nb
    by_cases e0 : eN X = 0
    · rw [if_pos e0] at k nb
      rw [if_neg (fun q => by have := z3.mp q; omega)]
      exact mod_pow he nb k
    · rw [if_neg e0] at k nb
      rw [if_pos (z3.mpr (by omega)), (l2d_add hf).1]
      refine ⟨nn_ok nb, ?_⟩
      rintro _ rfl
      exact mod_pow he nb k
/-- both say the same double -/
theorem d_same (X : Int64) : Op.cmpValue (FP.dcmp (dC X) (dM X)) .l = 0 := by
  have nb := nn_base X
  unfold dC dM
  by_cases e1 : eN X = 2047
  · by_cases f0 : fN X = 0
    · rw [if_neg (fun q => q.2 f0), if_pos e1, if_pos f0]
      have b : base X = FP.l2d 4503599627370496 := by
        unfold base
        rw [if_neg (by omega), f0]; rfl
      have s : scal (eN X) (base X) = 9218868437227405312 := by
        unfold scal
        rw [e1, b, if_pos (by decide), show 2047 - 1075 = 972 from rfl]
        exact inf972
      by_cases c : X < 0
      · rw [if_pos c, if_pos c, scal_neg, s]
        exact cmp_same (nn_neg nn_inf) (neg_val _).symm
      · rw [if_neg c, if_neg c, s]
        exact cmp_same nn_inf rfl
    · rw [if_pos ⟨e1, f0⟩, if_pos e1, if_neg f0]
      decide +kernel
  · rw [if_neg (fun q => e1 q.1), if_neg e1]
    by_cases c : X < 0
    · rw [if_pos c, if_pos c, scal_neg]
      exact cmp_same (nn_neg (nn_scal nb)) (neg_val _).symm
    · rw [if_neg c, if_neg c]
      exact cmp_same (nn_scal nb) rfl
end FPM
