/-! the Model reads bits -/
section RDB
variable {d L : Nat} {M : Nat → Int32} {S : Tb} {g0 g : Hp} {k : Nat} {s : Ps (List Int64)} {c p m : Int32}
def btI (B : Nat) : Int32 := if B % 8 = 0 then 8 else iv (B % 8)
theorem Mk.refl (g : Hp) : Mk g g := ⟨⟨rfl, rfl, rfl, rfl⟩, rfl⟩
theorem Mk.trans {g g' g'' : Hp} (a : Mk g g') (b : Mk g' g'') : Mk g g'' := ⟨⟨b.1.1.trans a.1.1, b.1.2.1.trans a.1.2.1, b.1.2.2.1.trans a.1.2.2.1, b.1.2.2.2.trans a.1.2.2.2⟩, b.2.trans a.2⟩
theorem Mk.i {j : Nat} {v : Int32} (h : ¬ j = 39) : Mk g (sI g 197 j v) := ⟨⟨hI_ne (by decide), hI_ne (by decide), hI_ne (by decide), rfl⟩, hI_o (by omega)⟩
theorem m_bits45 {K : Int64 → Hp → Prop} {x1 x4 : Int32} {x2 : Int64} {y5 : Option Value} {q r : Nat} (R : Rm0 L M S g) (f0 : hI g 197 41 = 0) (e42 : hI g 197 42 = iv (q + 1)) (e43 : hI g 197 43 = iv r) (hq : q < L) (hr : r < 8) (kk : Wp (d + 1) m_Mo_readBits 5 [some (.ref 197), some (.int x1), some (.long ((x2 <<< ((1 : Int32).toInt64 &&& 63)) ||| (bitAt M (8 * q + r)).toInt64)), none, some (.int (x4 + 1)), y5] [] (sI g 197 43 (iv (r + 1))) (QL K)) : Wp (d + 1) m_Mo_readBits 45 [some (.ref 197), some (.int x1), some (.long x2), none, some (.int x4), y5] [] g (QL K) := by
  have Mm := R.1.1.1
  have l120 := R.2.1.2.1
  have ax : ainr (iv q) 121 = true := ainr_iv (by omega) (by omega)
  have cx : (iv q).toNatClampNeg = q := iv_clamp (by omega)
  refine w_Mo_readBits_45 ⟨Mm.o, ?_⟩
  rw [f0, if_neg (by decide), Mm.r6, Mm.s200, e42, iv_dec, cx, R.2.1.2.2.1 q hq, e43, iv1, iv_add]
  refine ⟨rfl, ax, ?_⟩
  rintro _ rfl _ rfl _ rfl
  unfold bitAt at kk
  rw [show (8 * q + r) / 8 = q by omega, show (8 * q + r) % 8 = r by omega] at kk
  exact kk
theorem m_bits {K : Int64 → Hp → Prop} (R0 : Rm0 L M S g0) {e : Nat} (he : e < 100) (kF : s.1 + e ≤ 8 * L → ∀ g', Cor L S g0 (s.1 + e, s.2) g' → hI g' 197 43 = btI (s.1 + e) → Mk g g' → K (bitsV M s.1 e) g') (kE : 8 * L < s.1 + e → ∀ g', FlR g0 2 s.2.2.2.1 s.2.2.2.2 g' → Mk g g' → K 0 g') : ∀ (i j : Nat) (g1 : Hp) (y5 : Option Value), j + i = e → Cor L S g0 (s.1 + j, s.2) g1 → hI g1 197 43 = btI (s.1 + j) → Mk g g1 → Wp (d + 1) m_Mo_readBits 5 [some (.ref 197), some (.int (iv e)), some (.long (bitsV M s.1 j)), none, some (.int (iv j)), y5] [] g1 (QL K)
  | 0, j, g1, y5, ej, c, hb, hmk => by
    refine w_Mo_readBits_5 ?_
    have : j = e := by omega
    subst this
    rw [if_neg (fun z => by have := (iv_lt (by omega) (by omega)).mp z; omega)]
    exact kF c.2.2.1.2 g1 c hb hmk
  | i + 1, j, g1, y5, ej, c, hb, hmk => by
    have R := R0.fr c.1
    have l120 := R.2.1.2.1
    have hB : s.1 + j ≤ 8 * L := c.2.2.1.2
    refine w_Mo_readBits_5 ?_
    rw [if_pos ((iv_lt (by omega) (by omega)).mpr (by omega))]
    refine ⟨R.1.1.1.o, ?_⟩
    rw [if_pos c.2.1]
    by_cases al : (s.1 + j) % 8 = 0
    · have b8 : hI g1 197 43 = 8 := by rw [hb]; unfold btI; rw [if_pos al]
      rw [if_pos b8]
      refine m_nextByte R0 c (fun z => ?_) fun z => ?_
      · have z : bfN (s.1 + j) < L := z
        have f1 : MdF g1 (sI g1 197 42 (iv (bfN (s.1 + j) + 1))) := MdF.i (by omega)
        refine ⟨(R.fr f1).1.1.1.o, ?_⟩
        rw [hI_o (by decide), if_pos c.2.1]
        rintro _ rfl
        have R2 : Rm0 L M S (sI (sI g1 197 42 (iv (bfN (s.1 + j) + 1))) 197 43 0) := (R.fr f1).fr (MdF.i (by omega))
        refine m_bits45 (q := bfN (s.1 + j)) (r := 0) R2 ?_ ?_ hI_s z (by omega) ?_
        · rw [hI_o (by decide), hI_o (by decide)]; exact c.2.1
        · rw [hI_o (by decide), hI_s]
        · have q8 : 8 * bfN (s.1 + j) + 0 = s.1 + j := by unfold bfN; omega
          rw [q8, iv1, iv_add]
          refine m_bits R0 he kF kE i (j + 1) _ _ (by omega) ?_ ?_ ?_
          · obtain ⟨c1, c2, ⟨c3, c4⟩, ⟨c5, c6⟩, ⟨c7, c8, c9⟩, c10⟩ := c
            have e : ∀ i, ¬ i = 42 → ¬ i = 43 → hI (sI (sI (sI g1 197 42 (iv (bfN (s.1 + j) + 1))) 197 43 0) 197 43 (iv (0 + 1))) 197 i = hI g1 197 i := fun i h1 h2 => by rw [hI_o (by omega), hI_o (by omega), hI_o (by omega)]
            refine ⟨((c1.trans f1).trans (MdF.i (by omega))).trans (MdF.i (by omega)), by rw [e 41 (by omega) (by omega)]; exact c2, ⟨?_, ?_⟩, ⟨by rw [e 47 (by omega) (by omega)]; exact c5, by rw [e 48 (by omega) (by omega)]; exact c6⟩, ⟨by rw [e 46 (by omega) (by omega)]; exact c7, c8, c9⟩, c10⟩
            · rw [hI_o (by decide), hI_o (by decide), hI_s]
              show iv (bfN (s.1 + j) + 1) = iv (bfN (s.1 + (j + 1)))
              congr 1; unfold bfN; omega
            · show s.1 + (j + 1) ≤ 8 * L
              unfold bfN at z; omega
          · rw [hI_s]; unfold btI
            rw [if_neg (by omega)]; congr 1; omega
          · exact ((hmk.trans (Mk.i (by decide))).trans (Mk.i (by decide))).trans (Mk.i (by decide))
      · have z : L ≤ bfN (s.1 + j) := z
        have fl := FlR.wr R0 c (x := 2) (Or.inl rfl)
        obtain ⟨o, f, c0, -⟩ := fl.o
        refine ⟨o, ?_⟩
        rw [hI_s, if_neg (by decide)]
        refine w_Mo_readBits_45 ⟨o, ?_⟩
        rw [hI_s, if_pos (by decide)]
        exact kE (by unfold bfN at z; omega) _ fl (hmk.trans (Mk.i (by decide)))
    · have b8 : hI g1 197 43 = iv ((s.1 + j) % 8) := by rw [hb]; unfold btI; rw [if_neg al]
      rw [b8, if_neg (show ¬ iv ((s.1 + j) % 8) = 8 from fun z => by have := (iv_inj (a := (s.1 + j) % 8) (b := 8) (by omega) (by omega)).mp z; omega)]
      refine m_bits45 (q := (s.1 + j) / 8) (r := (s.1 + j) % 8) R c.2.1 ?_ b8 (by omega) (by omega) ?_
      · rw [c.2.2.1.1]
        show iv (bfN (s.1 + j)) = _
        congr 1; unfold bfN; omega
      · rw [show 8 * ((s.1 + j) / 8) + (s.1 + j) % 8 = s.1 + j by omega, iv1, iv_add]
        refine m_bits R0 he kF kE i (j + 1) _ _ (by omega) ?_ ?_ (hmk.trans (Mk.i (by decide)))
        · obtain ⟨c1, c2, ⟨c3, c4⟩, ⟨c5, c6⟩, ⟨c7, c8, c9⟩, c10⟩ := c
          have e : ∀ i, ¬ i = 43 → hI (sI g1 197 43 (iv ((s.1 + j) % 8 + 1))) 197 i = hI g1 197 i := fun i h2 => hI_o (by omega)
          refine ⟨c1.trans (MdF.i (by omega)), by rw [e 41 (by omega)]; exact c2, ⟨?_, ?_⟩, ⟨by rw [e 47 (by omega)]; exact c5, by rw [e 48 (by omega)]; exact c6⟩, ⟨by rw [e 46 (by omega)]; exact c7, c8, c9⟩, c10⟩
          · rw [e 42 (by omega), c3]
            show iv (bfN (s.1 + j)) = iv (bfN (s.1 + (j + 1)))
            congr 1; unfold bfN; omega
          · show s.1 + (j + 1) ≤ 8 * L
            omega
        · rw [hI_s]; unfold btI
          by_cases z : (s.1 + (j + 1)) % 8 = 0
          · rw [if_pos z, show (s.1 + j) % 8 + 1 = 8 by omega]; rfl
          · rw [if_neg z]; congr 1; omega
end RDB
