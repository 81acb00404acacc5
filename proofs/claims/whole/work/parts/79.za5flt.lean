/-! the Model reads a floating unit -/
section RDL
variable {d L : Nat} {M : Nat → Int32} {S : Tb} {g0 g : Hp} {k : Nat} {s : Ps (List Int64)} {c p m : Int32}
theorem m_flt86F {K : Hp → Prop} {w : Nat} {y1 : Option Value} (hw : w < 100) (kk : ∀ g', FlR g0 c p m g' → K g') : ∀ (i j : Nat) (g1 : Hp) (v : Int64), j + i = w → FlR g0 c p m g1 → Wp (d + 5) m_Mo_floating 86 [some (.ref 197), y1, some (.int (iv w)), some (.long v), none, some (.int (iv j))] [] g1 (QV K)
  | 0, j, g1, v, e, fl => by
    obtain ⟨o, f, c0, Mm⟩ := fl.o
    refine w_Mo_floating_86 ?_
    rw [if_neg (fun z => by have := (iv_lt (by omega) (by omega)).mp z; omega)]
    split
    · exact ⟨o, m_giveF fl (kk _ fl)⟩
    · exact ⟨o, m_giveF fl (kk _ fl)⟩
  | i + 1, j, g1, v, e, fl => by
    obtain ⟨o, f, c0, Mm⟩ := fl.o
    refine w_Mo_floating_86 ?_
    rw [if_pos ((iv_lt (by omega) (by omega)).mpr (by omega))]
    refine ⟨o, m_nextF fl ?_⟩
    rw [iv1, iv_add]
    rintro _ rfl _ rfl
    exact m_flt86F hw kk i (j + 1) g1 _ (by omega) fl
/-- a value given that is no field's -/
theorem m_giv {K : Hp → Prop} {v : Int64} {B : Nat} (R0 : Rm0 L M S g0) (ns : ¬ sz (tG S k 0) = true) (c : Cor L S g0 (B, (stU S k s).2) g) (hb : hI g 197 43 = btI B) (ok : ¬ v < loT S k ∧ ¬ hiT S k < v)
    (kF : (kpP S k v B s.2.1).1 = 0 → ∀ g', RxR L S g0 (mkU S k s (kpP S k v B s.2.1)).2 g' → Mk g g' → K g')
    (kE : ¬ (kpP S k v B s.2.1).1 = 0 → ∀ g', FlR g0 ((kpP S k v B s.2.1).1 + 1) (iv (s.1 / 8)) (tG S k 7) g' → K g') : Ca (d + 1) m_Mo_give [.ref 197, .long v] g (QV K) := by
  unfold kpP at kF kE
  refine m_give R0 c (fun z => ?_) fun z => ?_
  · have z : s.2.1.length < 160 := z
    rw [if_neg (fun y => y.elim (fun y => y.elim ok.1 ok.2) fun y => y z)] at kF
    obtain ⟨c2, b2⟩ := c.give (v := v) z
    refine kF rfl _ ⟨⟨c2.1, c2.2.1, c2.2.2.1, c2.2.2.2.1, c2.2.2.2.2.1, fun q w hq => ?_⟩, by rw [b2, hb]; rfl⟩ ⟨⟨?_, ?_, ?_, ?_⟩, ?_⟩
    · have hq : (if q = k ∧ sz (tG S k 0) = true then some v else s.2.2.1 q) = some w := hq
      rw [if_neg (fun y => ns y.2)] at hq
      exact c2.2.2.2.2.2 q w hq
    · rw [hI_ne (by decide), hI_sL]
    · rw [hI_ne (by decide), hI_sL]
    · rw [hI_ne (by decide), hI_sL]
    · rw [hL_sI, hL_ne (by decide)]
    · rw [hI_o (by decide), hI_sL]
  · have z : ¬ s.2.1.length < 160 := z
    rw [if_pos (Or.inr z)] at kE
    exact kE (show ¬ (2 : Int32) = 0 by decide) _ (FlR.wr R0 c (x := 3) (Or.inr rfl))
theorem m_flt86 {K : Hp → Prop} {w : Nat} {y1 : Option Value} (R0 : Rm0 L M S g0) (ns : ¬ sz (tG S k 0) = true) (hw : (w = 4 ∧ tG S k 0 = 102) ∨ (w = 8 ∧ tG S k 0 = 100)) (al : s.1 % 8 = 0)
    (kF : ∀ v, s.1 + 8 * w ≤ 8 * L → v = sgnV (tG S k 0) w (numV M (bfN s.1) w false w) → (kpP S k v (s.1 + 8 * w) s.2.1).1 = 0 → ∀ g', RxR L S g0 (mkU S k s (kpP S k v (s.1 + 8 * w) s.2.1)).2 g' → Mk g g' → K g')
    (kE : ∀ v, s.1 + 8 * w ≤ 8 * L → v = sgnV (tG S k 0) w (numV M (bfN s.1) w false w) → ¬ (kpP S k v (s.1 + 8 * w) s.2.1).1 = 0 → ∀ g', FlR g0 ((kpP S k v (s.1 + 8 * w) s.2.1).1 + 1) (iv (s.1 / 8)) (tG S k 7) g' → K g')
    (kB : 8 * L < s.1 + 8 * w → ∀ g', FlR g0 2 (iv (s.1 / 8)) (tG S k 7) g' → K g') : ∀ (i j : Nat) (g1 : Hp), j + i = w → Cor L S g0 (s.1 + 8 * j, (stU S k s).2) g1 → hI g1 197 43 = btI s.1 → Mk g g1 → Wp (d + 5) m_Mo_floating 86 [some (.ref 197), y1, some (.int (iv w)), some (.long (numV M (bfN s.1) w false j)), none, some (.int (iv j))] [] g1 (QV K)
  | 0, j, g1, e, c, hb, hmk => by
    have R := R0.fr c.1
    have Mm := R.1.1.1
    have le : s.1 + 8 * j ≤ 8 * L := c.2.2.1.2
    have ej : j = w := by omega
    subst ej
    have ok := mN_ok R0
    have e1 : numV M (bfN s.1) j false j = jv (hiN (fun i => mN M (bfN s.1 + if false = true then j - 1 - i else i)) j) := numV_hi (f := fun i => mN M (bfN s.1 + if false = true then j - 1 - i else i)) (fun i => (ok _).2) (fun i _ => (ok _).1) (by omega) j (Nat.le_refl _)
    have bb : btI (s.1 + 8 * j) = btI s.1 := by
      unfold btI; rw [show (s.1 + 8 * j) % 8 = s.1 % 8 by omega]
    refine w_Mo_floating_86 ?_
    rw [if_neg (fun z => by have := (iv_lt (by omega) (by omega)).mp z; omega)]
    have giv : ∀ v, v = sgnV (tG S k 0) j (numV M (bfN s.1) j false j) → (¬ v < loT S k ∧ ¬ hiT S k < v) → (hS g1 197).1 = 8 ∧ Ca (d + 4) m_Mo_give [.ref 197, .long v] g1 (QV fun h41 => K h41) := fun v ev okv => ⟨Mm.o, m_giv (d := d + 3) R0 ns c (by rw [hb, bb]) okv (fun z g' r hmk' => kF v le ev z g' r (hmk.trans hmk')) (kE v le ev)⟩
    rcases hw with ⟨rfl, hk⟩ | ⟨rfl, hk⟩
    · rw [if_pos (by decide)]
      have n4 := hiN_lt (f := fun i => mN M (bfN s.1 + if false = true then 4 - 1 - i else i)) (fun i => (ok _).2) 4
      refine giv _ ?_ ?_
      · rw [hk, e1, sgn_f (by have : (256 : Nat) ^ 4 = 4294967296 := by decide
                              omega)]
      · rw [show loT S k = -2147483648 by unfold loT; rw [if_pos hk]; decide +kernel, show hiT S k = 2147483647 by unfold hiT; rw [if_pos hk]; decide +kernel]
        rw [Int64.lt_iff_toInt_lt, Int64.lt_iff_toInt_lt, Int32.toInt_toInt64, show (-2147483648 : Int64).toInt = -2147483648 from by decide, show (2147483647 : Int64).toInt = 2147483647 from by decide]
        have a := Int32.le_toInt (numV M (bfN s.1) 4 false 4).toInt32
        have b := Int32.toInt_lt (numV M (bfN s.1) 4 false 4).toInt32
        omega
    · rw [if_neg (by decide)]
      refine giv _ ?_ ?_
      · rw [hk, sgn_d]
      · rw [show loT S k = -9223372036854775808 by unfold loT; rw [if_neg (by rw [hk]; decide), if_pos hk]; decide +kernel, show hiT S k = 9223372036854775807 by unfold hiT; rw [if_neg (by rw [hk]; decide), if_pos hk]; decide +kernel]
        rw [Int64.lt_iff_toInt_lt, Int64.lt_iff_toInt_lt, show (-9223372036854775808 : Int64).toInt = -9223372036854775808 from by decide, show (9223372036854775807 : Int64).toInt = 9223372036854775807 from by decide]
        have a := Int64.le_toInt (numV M (bfN s.1) 8 false 8)
        have b := Int64.toInt_lt (numV M (bfN s.1) 8 false 8)
        omega
  | i + 1, j, g1, e, c, hb, hmk => by
    have R := R0.fr c.1
    have Mm := R.1.1.1
    have bj : bfN (s.1 + 8 * j) = bfN s.1 + j := by unfold bfN; omega
    refine w_Mo_floating_86 ?_
    rw [if_pos ((iv_lt (by omega) (by omega)).mpr (by omega))]
    refine ⟨Mm.o, m_nextByte R0 c (fun z => ?_) fun z => ?_⟩
    · have z : bfN (s.1 + 8 * j) < L := z
      obtain ⟨c', b'⟩ := c.adv (show (s.1 + 8 * j) % 8 = 0 by omega) z
      have c' : Cor L S g0 (s.1 + 8 * (j + 1), (stU S k s).2) (sI g1 197 42 (iv (bfN (s.1 + 8 * j) + 1))) := by
        rw [show s.1 + 8 * (j + 1) = s.1 + 8 * j + 8 by omega]; exact c'
      rw [iv1, iv_add]
      rintro _ rfl _ rfl
      have := m_flt86 (y1 := y1) R0 ns hw al kF kE kB i (j + 1) _ (by omega) c' (b'.trans hb) (hmk.trans (Mk.i (by decide)))
      unfold numV at this
      rw [if_neg (by decide), ← bj] at this
      exact this
    · have z : L ≤ bfN (s.1 + 8 * j) := z
      have fl := FlR.wr R0 c (x := 2) (Or.inl rfl)
      rw [iv1, iv_add]
      rintro _ rfl _ rfl
      exact m_flt86F (by omega) (kB (by unfold bfN at z; omega)) i (j + 1) _ _ (by omega) fl
end RDL
