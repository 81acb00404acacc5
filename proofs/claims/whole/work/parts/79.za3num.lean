/-! the Model reads numbers -/
section RDN
variable {d L : Nat} {M : Nat → Int32} {S : Tb} {g0 g : Hp} {k : Nat} {s : Ps (List Int64)} {c p m : Int32}
theorem m_num13F {K : Int64 → Hp → Prop} {w : Nat} (hk : k < 90) (hw : w < 100) (hr : 8 ≤ d) (kk : ∀ v g', FlR g0 c p m g' → Mk g g' → K v g') : ∀ (i j : Nat) (g1 : Hp) (v : Int64) (y6 y7 : Option Value), j + i = w → FlR g0 c p m g1 → Mk g g1 → Wp (d + 1) m_Mo_readNumber 13 [some (.ref 197), some (.int (iv k)), some (.long v), none, some (.int (iv w)), some (.int (iv j)), y6, y7] [] g1 (QL K)
  | 0, j, g1, v, y6, y7, e, fl, hmk => by
    obtain ⟨o, f, c0, Mm⟩ := fl.o
    have ax : ainr (iv k) 90 = true := ainr_iv (by omega) (by omega)
    refine w_Mo_readNumber_13 ?_
    rw [if_neg (fun z => by have := (iv_lt (by omega) (by omega)).mp z; omega), Mm.r12, Mm.s202]
    refine ⟨o, rfl, ax, ?_⟩
    split
    · split
      · rintro _ rfl; exact kk _ _ fl hmk
      · exact kk _ _ fl hmk
    · exact kk _ _ fl hmk
  | i + 1, j, g1, v, y6, y7, e, fl, hmk => by
    obtain ⟨o, f, c0, Mm⟩ := fl.o
    have ax : ainr (iv k) 90 = true := ainr_iv (by omega) (by omega)
    refine w_Mo_readNumber_13 ?_
    rw [if_pos ((iv_lt (by omega) (by omega)).mpr (by omega))]
    refine ⟨o, m_nextF fl ?_⟩
    rintro _ rfl
    rw [Mm.r12, Mm.s202, iv1, iv_add]
    refine ⟨o, rfl, ax, ?_⟩
    split
    · rintro _ rfl _ rfl
      exact m_num13F hk hw hr kk i (j + 1) g1 _ _ _ (by omega) fl hmk
    · rintro _ rfl _ rfl
      exact m_num13F hk hw hr kk i (j + 1) g1 _ _ _ (by omega) fl hmk
def mN (M : Nat → Int32) (i : Nat) : Nat := (M i).toInt.toNat
theorem mN_ok (R0 : Rm0 L M S g0) (i : Nat) : M i = iv (mN M i) ∧ mN M i < 256 := by
  obtain ⟨m, m1, m2⟩ := R0.2.1.2.2.2.2 i
  unfold mN
  rw [m2, iv_toInt (by omega)]
  exact ⟨rfl, m1⟩
/-- what the bytes read so far stand for -/
def rnV (M : Nat → Int32) (c : Int32) (p w j : Nat) : Int64 := if c = 118 then loV M p j else numV M p w false j
theorem rn_fin (R0 : Rm0 L M S g0) {x : Int32} {w p : Nat} (h1 : 1 ≤ w) (h4 : w ≤ 4) : rnV M x p w w = numV M p w (decide (x = 118)) w ∧ ∃ N, N < 256 ^ w ∧ numV M p w (decide (x = 118)) w = jv N := by
  have ok := mN_ok R0
  have e1 : ∀ low, numV M p w low w = jv (hiN (fun j => mN M (p + if low = true then w - 1 - j else j)) w) := fun low => numV_hi (f := fun j => mN M (p + if low = true then w - 1 - j else j)) (fun i => (ok _).2) (fun j _ => (ok _).1) (by omega) w (Nat.le_refl _)
  have e2 : loV M p w = jv (loN (fun j => mN M (p + j)) w) := loV_lo (f := fun j => mN M (p + j)) (w := w) (fun i => (ok _).2) (fun j _ => (ok _).1) h4 w (Nat.le_refl _)
  refine ⟨?_, _, ?_, e1 _⟩
  · unfold rnV
    by_cases c : x = 118
    · rw [if_pos c, e2, e1, show decide (x = 118) = true from decide_eq_true c]
      congr 1
      exact (lo_hi (f := fun j => mN M (p + j)) h1 h4).symm
    · rw [if_neg c, show decide (x = 118) = false from decide_eq_false c]
  · exact hiN_lt (fun i => (ok _).2) w
theorem m_num13 {K : Int64 → Hp → Prop} {w : Nat} (R0 : Rm0 L M S g0) (hk : k < S.1) (h1 : 1 ≤ w) (h4 : w ≤ 4) (hr : 8 ≤ d) (al : s.1 % 8 = 0) (kF : s.1 + 8 * w ≤ 8 * L → ∀ g', Cor L S g0 (s.1 + 8 * w, s.2) g' → hI g' 197 43 = hI g 197 43 → Mk g g' → K (sgnV (if tG S k 0 = 115 then 115 else 0) w (numV M (bfN s.1) w (decide (tG S k 0 = 118)) w)) g') (kE : 8 * L < s.1 + 8 * w → ∀ v g', FlR g0 2 s.2.2.2.1 s.2.2.2.2 g' → Mk g g' → K v g') : ∀ (i j : Nat) (g1 : Hp) (y6 y7 : Option Value), j + i = w → Cor L S g0 (s.1 + 8 * j, s.2) g1 → hI g1 197 43 = hI g 197 43 → Mk g g1 → Wp (d + 1) m_Mo_readNumber 13 [some (.ref 197), some (.int (iv k)), some (.long (rnV M (tG S k 0) (bfN s.1) w j)), none, some (.int (iv w)), some (.int (iv j)), y6, y7] [] g1 (QL K)
  | 0, j, g1, y6, y7, e, c, hb, hmk => by
    have R := R0.fr c.1
    have u90 := R.1.1.2.2.1
    have Mm := R.1.1.1
    have ax : ainr (iv k) 90 = true := ainr_iv (by omega) (by omega)
    have cx : (iv k).toNatClampNeg = k := iv_clamp (by omega)
    have ej : j = w := by omega
    subst ej
    obtain ⟨r1, N, n1, n2⟩ := rn_fin (p := bfN s.1) (x := tG S k 0) R0 h1 h4
    refine w_Mo_readNumber_13 ?_
    rw [if_neg (fun z => by have := (iv_lt (by omega) (by omega)).mp z; omega), Mm.r12, Mm.s202, cx, R.1.1.kd (by omega), r1, n2]
    have kF := kF c.2.2.1.2 g1 c hb hmk
    rw [n2] at kF
    refine ⟨Mm.o, rfl, ax, ?_⟩
    by_cases c5 : tG S k 0 = 115
    · rw [if_pos c5, sgn_s h1 h4 n1] at kF
      rw [if_pos c5]
      by_cases z : ((jv N >>> ((((8 : Int32) * iv j) - (1 : Int32)).toInt64 &&& 63)) &&& (1 : Int64)) = 1
      · rw [if_pos z] at kF ⊢
        rintro _ rfl; exact kF
      · rw [if_neg z] at kF ⊢
        exact kF
    · rw [if_neg c5] at kF
      rw [if_neg c5]
      exact kF
  | i + 1, j, g1, y6, y7, e, c, hb, hmk => by
    have R := R0.fr c.1
    have u90 := R.1.1.2.2.1
    have Mm := R.1.1.1
    have ax : ainr (iv k) 90 = true := ainr_iv (by omega) (by omega)
    have cx : (iv k).toNatClampNeg = k := iv_clamp (by omega)
    have bj : bfN (s.1 + 8 * j) = bfN s.1 + j := by unfold bfN; omega
    refine w_Mo_readNumber_13 ?_
    rw [if_pos ((iv_lt (by omega) (by omega)).mpr (by omega))]
    refine ⟨Mm.o, m_nextByte R0 c (fun z => ?_) fun z => ?_⟩
    · have z : bfN (s.1 + 8 * j) < L := z
      obtain ⟨c', b'⟩ := c.adv (show (s.1 + 8 * j) % 8 = 0 by omega) z
      rintro _ rfl
      have R' := R0.fr c'.1
      have Mm' := R'.1.1.1
      rw [Mm'.r12, Mm'.s202, cx, R'.1.1.kd (by omega)]
      refine ⟨Mm'.o, rfl, ax, ?_⟩
      have c' : Cor L S g0 (s.1 + 8 * (j + 1), s.2) (sI g1 197 42 (iv (bfN (s.1 + 8 * j) + 1))) := by
        rw [show s.1 + 8 * (j + 1) = s.1 + 8 * j + 8 by omega]; exact c'
      have nx := fun y6 y7 => m_num13 R0 hk h1 h4 hr al kF kE i (j + 1) _ y6 y7 (by omega) c' (b'.trans hb) (hmk.trans (Mk.i (by decide)))
      by_cases c8 : tG S k 0 = 118
      · rw [if_pos c8]
        rintro _ rfl _ rfl
        have := nx (some (.long (M (bfN (s.1 + 8 * j))).toInt64)) none
        rw [iv1, iv_add]
        unfold rnV at this ⊢
        rw [if_pos c8] at this ⊢
        unfold loV at this
        rw [← bj] at this
        exact this
      · rw [if_neg c8]
        rintro _ rfl _ rfl
        have := nx (some (.long (M (bfN (s.1 + 8 * j))).toInt64)) none
        rw [iv1, iv_add]
        unfold rnV at this ⊢
        rw [if_neg c8] at this ⊢
        unfold numV at this
        rw [if_neg (by decide), ← bj] at this
        exact this
    · have z : L ≤ bfN (s.1 + 8 * j) := z
      have fl := FlR.wr R0 c (x := 2) (Or.inl rfl)
      rintro _ rfl
      have Mm' : ShM (sI g1 197 41 2) := Mm.same rfl rfl
      rw [Mm'.r12, Mm'.s202, iv1, iv_add]
      refine ⟨Mm'.o, rfl, ax, ?_⟩
      have kE := kE (by unfold bfN at z; omega)
      split
      · rintro _ rfl _ rfl
        exact m_num13F (w := w) (by omega) (by omega) hr kE i (j + 1) _ _ _ _ (by omega) fl (hmk.trans (Mk.i (by decide)))
      · rintro _ rfl _ rfl
        exact m_num13F (w := w) (by omega) (by omega) hr kE i (j + 1) _ _ _ _ (by omega) fl (hmk.trans (Mk.i (by decide)))
end RDN
