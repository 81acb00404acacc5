/-! doubles: no NaN, signs, doublings -/
/-- a number or an infinity -/
def nn (a : UInt64) : Prop := ¬ FP.Core.val64 a = .nan
theorem nn_ok {a : UInt64} (h : nn a) : a &&& 0x7fffffffffffffff ≤ 0x7ff0000000000000 := by
  have h2 : ¬ FP.Core.decode FP.Core.b64 a.toNat = .nan := h
  unfold FP.Core.decode at h2
  rw [UInt64.le_iff_toNat_le, UInt64.toNat_and]
  have e1 : (0x7fffffffffffffff : UInt64).toNat = 2 ^ 63 - 1 := rfl
  have e2 : (0x7ff0000000000000 : UInt64).toNat = 2047 * 4503599627370496 := rfl
  rw [e1, e2, Nat.and_two_pow_sub_one_eq_mod]
  have t1 : FP.Core.fieldE FP.Core.b64 a.toNat = a.toNat / 4503599627370496 % 2048 := rfl
  have t2 : FP.Core.fieldT FP.Core.b64 a.toNat = a.toNat % 4503599627370496 := rfl
  have t3 : FP.Core.b64.exps - 1 = 2047 := rfl
  rw [t1, t2, t3] at h2
  by_cases c : a.toNat / 4503599627370496 % 2048 = 2047
  · rw [if_pos c] at h2
    by_cases e : a.toNat % 4503599627370496 = 0
    · omega
    · rw [if_neg e] at h2; exact absurd rfl h2
  · omega
theorem nn_round {d : FP.Core.Datum} (h : ¬ d = .nan) : ¬ FP.Core.round FP.Core.b64 d = .nan := by
  cases d with
  | nan => exact absurd rfl h
  | inf s => intro q; cases q
  | fin s c q =>
    show ¬ FP.Core.roundRatio FP.Core.b64 s c 1 q = .nan
    unfold FP.Core.roundRatio
    split
    · intro q; cases q
    · unfold FP.Core.roundAt FP.Core.settle FP.Core.bound
      split <;> split <;> intro q <;> cases q
theorem val2 : FP.Core.val64 4611686018427387904 = .fin false (2 ^ 52) (-51) := by decide +kernel
theorem valh : FP.Core.val64 4602678819172646912 = .fin false (2 ^ 52) (-53) := by decide +kernel
theorem nn_mul {a y : UInt64} {q : Int} (h : nn a) (hy : FP.Core.val64 y = .fin false (2 ^ 52) q) : nn (FP.dmul a y) := by
  unfold nn
  rw [show FP.dmul a y = FP.Core.dmul a y from rfl, FP.Core.val64_dmul, hy]
  refine nn_round ?_
  cases e : FP.Core.val64 a with
  | nan => exact absurd e h
  | inf s =>
    show ¬ (if (2 : Nat) ^ 52 = 0 then FP.Core.Datum.nan else _) = _
    rw [if_neg (by decide)]
    intro z; cases z
  | fin s c q => intro z; cases z
/-- y multiplied k times -/
def itm (y : UInt64) : Nat → UInt64 → UInt64
  | 0, x => x
  | k + 1, x => itm y k (FP.dmul x y)
theorem nn_itm {y : UInt64} {q : Int} (hy : FP.Core.val64 y = .fin false (2 ^ 52) q) : ∀ k x, nn x → nn (itm y k x)
  | 0, x, h => h
  | k + 1, x, h => nn_itm hy k _ (nn_mul h hy)
theorem itm_neg {y : UInt64} : ∀ k x, itm y k (FP.Core.dneg x) = FP.Core.dneg (itm y k x)
  | 0, x => rfl
  | k + 1, x => by
    show itm y k (FP.Core.dmul (FP.Core.dneg x) y) = _
    rw [FP.Core.dmul_dneg]
    exact itm_neg k _
theorem mul_m1 {x : UInt64} (h : nn x) : FP.dmul x 13830554455654793216 = FP.Core.dneg x := by
  have e : FP.Core.dneg FP.Core.dconst1 = 13830554455654793216 := by decide +kernel
  show FP.Core.dmul x _ = _
  rw [← e, FP.Core.dmul_comm, FP.Core.dmul_dneg, FP.Core.dmul_comm, FP.Core.dmul_one h]
theorem nn_neg {x : UInt64} (h : nn x) : nn (FP.Core.dneg x) := by
  unfold nn
  rw [FP.Core.val64_dneg]
  cases e : FP.Core.val64 x with
  | nan => exact absurd e h
  | inf s => intro z; cases z
  | fin s c q => intro z; cases z
theorem neg_val (x : UInt64) : FP.Core.val64 (FP.dneg x) = FP.Core.val64 (FP.Core.dneg x) := by
  rw [FP.val64_dneg, FP.Core.val64_dneg]
theorem nn_dint {i : Int} {a : UInt64} (h : FP.Core.DInt i a) : nn a := by
  unfold nn
  unfold FP.Core.DInt at h
  intro q
  rw [q] at h
  exact h
theorem cmp_same {a b : UInt64} (h : nn a) (e : FP.Core.val64 a = FP.Core.val64 b) : Op.cmpValue (FP.dcmp a b) .l = 0 := by
  have : FP.dcmp a b = some .eq := by
    show FP.Core.order (FP.Core.val64 a) (FP.Core.val64 b) = _
    rw [← e]; exact FP.Core.order_self h
  rw [this]; rfl
theorem itm_add {y : UInt64} : ∀ a b x, itm y (a + b) x = itm y b (itm y a x)
  | 0, b, x => by rw [Nat.zero_add]; rfl
  | a + 1, b, x => by rw [Nat.succ_add]; exact itm_add a b _
theorem itc0 : itm 4611686018427387904 60 4841369599423283200 = 5111585577065512960 := by decide +kernel
theorem itc1 : itm 4611686018427387904 60 5111585577065512960 = 5381801554707742720 := by decide +kernel
theorem itc2 : itm 4611686018427387904 60 5381801554707742720 = 5652017532349972480 := by decide +kernel
theorem itc3 : itm 4611686018427387904 60 5652017532349972480 = 5922233509992202240 := by decide +kernel
theorem itc4 : itm 4611686018427387904 60 5922233509992202240 = 6192449487634432000 := by decide +kernel
theorem itc5 : itm 4611686018427387904 60 6192449487634432000 = 6462665465276661760 := by decide +kernel
theorem itc6 : itm 4611686018427387904 60 6462665465276661760 = 6732881442918891520 := by decide +kernel
theorem itc7 : itm 4611686018427387904 60 6732881442918891520 = 7003097420561121280 := by decide +kernel
theorem itc8 : itm 4611686018427387904 60 7003097420561121280 = 7273313398203351040 := by decide +kernel
theorem itc9 : itm 4611686018427387904 60 7273313398203351040 = 7543529375845580800 := by decide +kernel
theorem itc10 : itm 4611686018427387904 60 7543529375845580800 = 7813745353487810560 := by decide +kernel
theorem itc11 : itm 4611686018427387904 60 7813745353487810560 = 8083961331130040320 := by decide +kernel
theorem itc12 : itm 4611686018427387904 60 8083961331130040320 = 8354177308772270080 := by decide +kernel
theorem itc13 : itm 4611686018427387904 60 8354177308772270080 = 8624393286414499840 := by decide +kernel
theorem itc14 : itm 4611686018427387904 60 8624393286414499840 = 8894609264056729600 := by decide +kernel
theorem itc15 : itm 4611686018427387904 60 8894609264056729600 = 9164825241698959360 := by decide +kernel
theorem itc16 : itm 4611686018427387904 12 9164825241698959360 = 9218868437227405312 := by decide +kernel
theorem inf972 : itm 4611686018427387904 972 (FP.l2d 4503599627370496) = 9218868437227405312 := by
  rw [show FP.l2d 4503599627370496 = 4841369599423283200 from by decide +kernel]
  rw [show ((972 : Nat)) = 60 + 912 from rfl, itm_add, itc0]
  rw [show ((912 : Nat)) = 60 + 852 from rfl, itm_add, itc1]
  rw [show ((852 : Nat)) = 60 + 792 from rfl, itm_add, itc2]
  rw [show ((792 : Nat)) = 60 + 732 from rfl, itm_add, itc3]
  rw [show ((732 : Nat)) = 60 + 672 from rfl, itm_add, itc4]
  rw [show ((672 : Nat)) = 60 + 612 from rfl, itm_add, itc5]
  rw [show ((612 : Nat)) = 60 + 552 from rfl, itm_add, itc6]
  rw [show ((552 : Nat)) = 60 + 492 from rfl, itm_add, itc7]
  rw [show ((492 : Nat)) = 60 + 432 from rfl, itm_add, itc8]
  rw [show ((432 : Nat)) = 60 + 372 from rfl, itm_add, itc9]
  rw [show ((372 : Nat)) = 60 + 312 from rfl, itm_add, itc10]
  rw [show ((312 : Nat)) = 60 + 252 from rfl, itm_add, itc11]
  rw [show ((252 : Nat)) = 60 + 192 from rfl, itm_add, itc12]
  rw [show ((192 : Nat)) = 60 + 132 from rfl, itm_add, itc13]
  rw [show ((132 : Nat)) = 60 + 72 from rfl, itm_add, itc14]
  rw [show ((72 : Nat)) = 60 + 12 from rfl, itm_add, itc15]
  exact itc16
/-- the small numbers' doubles -/
theorem l2d_add {f : Nat} (hf : f < 4503599627370496) : FP.dadd (FP.l2d (jv f)) 4841369599423283200 = FP.l2d (jv f + 4503599627370496) ∧ nn (FP.l2d (jv f)) ∧ nn (FP.l2d (jv f + 4503599627370496)) := by
  have e : FP.l2d (jv 4503599627370496) = 4841369599423283200 := by decide +kernel
  have t1 := jv_toInt (n := f) (by omega)
  have t2 := jv_toInt (n := 4503599627370496) (by decide)
  have t3 := jv_toInt (n := f + 4503599627370496) (by omega)
  have s : jv f + 4503599627370496 = jv (f + 4503599627370496) := jv_add f 4503599627370496
  have d1 : FP.Core.DInt f (FP.l2d (jv f)) := by
    have := FP.Core.l2d_int (a := jv f) (by rw [t1]; omega)
    rw [t1] at this; exact this
  have d2 : FP.Core.DInt (4503599627370496 : Nat) (FP.l2d (jv 4503599627370496)) := by
    have := FP.Core.l2d_int (a := jv 4503599627370496) (by rw [t2]; decide)
    rw [t2] at this; exact this
  have d3 : FP.Core.DInt ((f + 4503599627370496 : Nat) : Int) (FP.l2d (jv (f + 4503599627370496))) := by
    have := FP.Core.l2d_int (a := jv (f + 4503599627370496)) (by rw [t3]; omega)
    rw [t3] at this; exact this
  have d4 := FP.Core.dadd_int d1 d2 (by omega)
  rw [e] at d4
  rw [s]
  refine ⟨FP.Core.dint_unique (i := ((f + 4503599627370496 : Nat) : Int)) (by omega) ?_ d3, nn_dint d1, nn_dint d3⟩
  rw [Int.natCast_add]; exact d4
/-! an int below 0 -/
def ng (k : Nat) : Int32 := -(iv k)
theorem ng_toInt {k : Nat} (h : k < 2 ^ 30) : (ng k).toInt = -(k : Int) := by
  unfold ng
  rw [Int32.toInt_neg, iv_toInt (by omega)]
  exact Int.bmod_eq_of_le (by omega) (by omega)
theorem ng_step (k : Nat) : ng k + (-1) = ng (k + 1) := by
  unfold ng
  rw [← iv_add, Int32.neg_add, Int32.sub_eq_add_neg]; exact congrArg (-(iv k) + ·) (by decide)
theorem ng_lt {a b : Nat} (ha : a < 2 ^ 30) (hb : b < 2 ^ 30) : ng a < ng b ↔ b < a := by
  rw [Int32.lt_iff_toInt_lt, ng_toInt ha, ng_toInt hb]; omega
theorem ng_sub {a b : Nat} (ha : a ≤ b) (hb : b < 2 ^ 30) : iv a - iv b = ng (b - a) := by
  rw [← Int32.toInt_inj, Int32.toInt_sub, iv_toInt (by omega), iv_toInt (by omega), ng_toInt (by omega), Int.bmod_eq_of_le (by omega) (by omega)]
  omega
section FPL
variable {d : Nat} {h : Hp}
theorem cls_up {K : UInt64 → Hp → Prop} {P : Nat} {y0 y1 y2 y3 : Option Value} (hP : P < 2 ^ 30) : ∀ (m k : Nat) (x : UInt64) (y4 : Option Value), k + m = P → nn x → (∀ y4, Wp d m_Ff_doubleOf 99 [y0, y1, y2, y3, y4, some (.double (itm 4611686018427387904 m x)), none, some (.int (iv P)), some (.int 0)] [] h (QD K)) → Wp d m_Ff_doubleOf 75 [y0, y1, y2, y3, y4, some (.double x), none, some (.int (iv P)), some (.int (iv k))] [] h (QD K)
  | 0, k, x, y4, hk, hx, q => by
    refine w_Ff_doubleOf_75 ?_
    rw [if_neg (fun z => by have := (iv_lt (by omega) (by omega)).mp z; omega)]
    exact q y4
  | m + 1, k, x, y4, hk, hx, q => by
    refine w_Ff_doubleOf_75 ?_
    rw [if_pos ((iv_lt (by omega) (by omega)).mpr (by omega))]
    refine ⟨nn_ok (nn_mul hx val2), ?_⟩
    rintro _ rfl _ rfl
    rw [iv1, iv_add]
    exact cls_up hP m (k + 1) _ _ (by omega) (nn_mul hx val2) q
theorem cls_dn {K : UInt64 → Hp → Prop} {D : Nat} {y0 y1 y2 y3 : Option Value} (hD : D < 2 ^ 30) : ∀ (m k : Nat) (x : UInt64) (y4 : Option Value), k + m = D → nn x → K (itm 4602678819172646912 m x) h → Wp d m_Ff_doubleOf 99 [y0, y1, y2, y3, y4, some (.double x), none, some (.int (ng D)), some (.int (ng k))] [] h (QD K)
  | 0, k, x, y4, hk, hx, q => by
    refine w_Ff_doubleOf_99 ?_
    rw [if_neg (fun z => by have := (ng_lt (by omega) (by omega)).mp z; omega)]
    exact q
  | m + 1, k, x, y4, hk, hx, q => by
    refine w_Ff_doubleOf_99 ?_
    rw [if_pos ((ng_lt (by omega) (by omega)).mpr (by omega))]
    refine ⟨nn_ok (nn_mul hx valh), ?_⟩
    rintro _ rfl _ rfl
    rw [ng_step]
    exact cls_dn hD m (k + 1) _ _ (by omega) (nn_mul hx valh) q
theorem mod_up {K : UInt64 → Hp → Prop} {P : Nat} {y0 y1 y4 y5 y6 : Option Value} {x2 : Int64} (hP : P < 2 ^ 30) : ∀ (m k : Nat) (x : UInt64) (y7 : Option Value), k + m = P → nn x → (∀ y7, Wp (d + 1) m_Mo_real 159 [y0, y1, some (.long x2), none, y4, y5, y6, y7, some (.double (itm 4611686018427387904 m x)), none, some (.int (iv P)), some (.int 0)] [] h (QD K)) → Wp (d + 1) m_Mo_real 135 [y0, y1, some (.long x2), none, y4, y5, y6, y7, some (.double x), none, some (.int (iv P)), some (.int (iv k))] [] h (QD K)
  | 0, k, x, y7, hk, hx, q => by
    refine w_Mo_real_135 ?_
    rw [if_neg (fun z => by have := (iv_lt (by omega) (by omega)).mp z; omega)]
    exact q y7
  | m + 1, k, x, y7, hk, hx, q => by
    refine w_Mo_real_135 ?_
    rw [if_pos ((iv_lt (by omega) (by omega)).mpr (by omega))]
    refine ⟨nn_ok (nn_mul hx val2), ?_⟩
    rintro _ rfl _ rfl
    rw [iv1, iv_add]
    exact mod_up hP m (k + 1) _ _ (by omega) (nn_mul hx val2) q
theorem mod_dn {K : UInt64 → Hp → Prop} {D : Nat} {y0 y1 y4 y5 y6 : Option Value} {x2 : Int64} (hD : D < 2 ^ 30) : ∀ (m k : Nat) (x : UInt64) (y7 : Option Value), k + m = D → nn x → K (if x2 < 0 then FP.dneg (itm 4602678819172646912 m x) else itm 4602678819172646912 m x) h → Wp (d + 1) m_Mo_real 159 [y0, y1, some (.long x2), none, y4, y5, y6, y7, some (.double x), none, some (.int (ng D)), some (.int (ng k))] [] h (QD K)
  | 0, k, x, y7, hk, hx, q => by
    refine w_Mo_real_159 ?_
    rw [if_neg (fun z => by have := (ng_lt (by omega) (by omega)).mp z; omega)]
    by_cases c : x2 < 0
    · rw [if_pos c] at q ⊢; exact q
    · rw [if_neg c] at q ⊢; exact q
  | m + 1, k, x, y7, hk, hx, q => by
    refine w_Mo_real_159 ?_
    rw [if_pos ((ng_lt (by omega) (by omega)).mpr (by omega))]
    refine ⟨nn_ok (nn_mul hx valh), ?_⟩
    rintro _ rfl _ rfl
    rw [ng_step]
    exact mod_dn hD m (k + 1) _ _ (by omega) (nn_mul hx valh) q
end FPL
