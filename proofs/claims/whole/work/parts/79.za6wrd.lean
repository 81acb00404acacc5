/-! the Model reads rows of bytes -/
section RDW
variable {d L : Nat} {M : Nat → Int32} {S : Tb} {g0 g : Hp} {k : Nat} {s : Ps (List Int64)} {c p m x1 : Int32}
theorem m_w106F {K : Hp → Prop} {n : Nat} (hn : n < 1000) (kk : ∀ g', FlR g0 c p m g' → K g') : ∀ (i j : Nat) (g1 : Hp), j + i = n → FlR g0 c p m g1 → Wp (d + 5) m_Mo_words 106 [some (.ref 197), some (.int x1), some (.int (iv n)), some (.int (iv j))] [] g1 (QV K)
  | 0, j, g1, e, fl => by
    obtain ⟨o, f, c0, Mm⟩ := fl.o
    refine w_Mo_words_106 ?_
    rw [if_neg (fun z => by have := (iv_lt (by omega) (by omega)).mp z; omega)]
    split
    · exact kk _ fl
    · exact ⟨o, m_nextF fl (kk _ fl)⟩
  | i + 1, j, g1, e, fl => by
    obtain ⟨o, f, c0, Mm⟩ := fl.o
    refine w_Mo_words_106 ?_
    rw [if_pos ((iv_lt (by omega) (by omega)).mpr (by omega))]
    refine ⟨o, m_nextF fl ⟨o, m_giveF fl ?_⟩⟩
    rw [iv1, iv_add]
    rintro _ rfl
    exact m_w106F hn kk i (j + 1) g1 (by omega) fl
theorem m_w98F {K : Hp → Prop} {n : Nat} {y3 : Option Value} (hn : n < 1000) (fl : FlR g0 c p m g) (kk : ∀ g', FlR g0 c p m g' → K g') : Wp (d + 5) m_Mo_words 98 [some (.ref 197), some (.int x1), some (.int (iv n)), y3] [] g (QV K) :=
  w_Mo_words_98 ⟨fl.o.1, m_giveF fl (m_w106F hn kk n 0 g (by omega) fl)⟩
theorem m_w106 {K : Hp → Prop} {n : Nat} (R0 : Rm0 L M S g0) (ns : ¬ sz (tG S k 0) = true) (al : s.1 % 8 = 0) (hn : n < 1000) {B' : Nat} (hx : (x1 = 0 ∧ B' = s.1 + 8 * n ∧ bfN s.1 + n ≤ L) ∨ (x1 = 1 ∧ B' = s.1 + 8 * n + 8 ∧ bfN s.1 + n < L))
    (kF : (kbP M (bfN s.1) n B' s.2.1).1 = 0 → ∀ g', RxR L S g0 (mkU S k s (kbP M (bfN s.1) n B' s.2.1)).2 g' → Mk g g' → K g')
    (kE : ¬ (kbP M (bfN s.1) n B' s.2.1).1 = 0 → ∀ g', FlR g0 ((kbP M (bfN s.1) n B' s.2.1).1 + 1) (iv (s.1 / 8)) (tG S k 7) g' → K g') : ∀ (i j : Nat) (g1 : Hp), j + i = n → Cor L S g0 (s.1 + 8 * j, s.2.1 ++ jv n :: bysV M (bfN s.1) j, (stU S k s).2.2) g1 → hI g1 197 43 = btI s.1 → Mk g g1 → Wp (d + 5) m_Mo_words 106 [some (.ref 197), some (.int x1), some (.int (iv n)), some (.int (iv j))] [] g1 (QV K)
  | 0, j, g1, e, c, hb, hmk => by
    have R := R0.fr c.1
    have Mm := R.1.1.1
    have ej : j = n := by omega
    subst ej
    have l := c.2.2.2.2.1.2.1
    have l : (s.2.1 ++ jv j :: bysV M (bfN s.1) j).length ≤ 160 := l
    rw [List.length_append, List.length_cons, bysV_len] at l
    unfold kbP at kF
    rw [if_pos (by omega)] at kF
    have fin : ∀ g', Cor L S g0 (B', s.2.1 ++ jv j :: bysV M (bfN s.1) j, (stU S k s).2.2) g' → hI g' 197 43 = btI s.1 → Mk g g' → K g' := fun g' c' b' hmk' => by
      refine kF rfl g' ⟨⟨c'.1, c'.2.1, c'.2.2.1, c'.2.2.2.1, c'.2.2.2.2.1, fun q w hq => ?_⟩, ?_⟩ hmk'
      · have hq : (if q = k ∧ sz (tG S k 0) = true then some (0 : Int64) else s.2.2.1 q) = some w := hq
        rw [if_neg (fun y => ns y.2)] at hq
        exact c'.2.2.2.2.2 q w hq
      · rw [b']
        have m8 : B' % 8 = 0 := by rcases hx with ⟨-, e, -⟩ | ⟨-, e, -⟩ <;> omega
        show btI s.1 = if B' % 8 = 0 then 8 else iv (B' % 8)
        unfold btI
        rw [if_pos al, if_pos m8]
    refine w_Mo_words_106 ?_
    rw [if_neg (fun z => by have := (iv_lt (by omega) (by omega)).mp z; omega)]
    rcases hx with ⟨rfl, eB, hl⟩ | ⟨rfl, eB, hl⟩
    · rw [if_pos rfl]
      rw [eB] at fin
      exact fin g1 c hb hmk
    · rw [if_neg (by decide)]
      refine ⟨Mm.o, m_nextByte R0 c (fun z => ?_) fun z => ?_⟩
      · have z : bfN (s.1 + 8 * j) < L := z
        obtain ⟨c', b'⟩ := c.adv (show (s.1 + 8 * j) % 8 = 0 by omega) z
        rw [eB] at fin
        exact fin _ c' (b'.trans hb) (hmk.trans (Mk.i (by decide)))
      · have z : L ≤ bfN (s.1 + 8 * j) := z
        unfold bfN at z hl; omega
  | i + 1, j, g1, e, c, hb, hmk => by
    have R := R0.fr c.1
    have Mm := R.1.1.1
    have hl : bfN s.1 + n ≤ L := by rcases hx with ⟨-, -, h⟩ | ⟨-, -, h⟩ <;> omega
    have bj : bfN (s.1 + 8 * j) = bfN s.1 + j := by unfold bfN; omega
    refine w_Mo_words_106 ?_
    rw [if_pos ((iv_lt (by omega) (by omega)).mpr (by omega))]
    refine ⟨Mm.o, m_nextByte R0 c (fun z => ?_) fun z => ?_⟩
    · have z : bfN (s.1 + 8 * j) < L := z
      obtain ⟨c', b'⟩ := c.adv (show (s.1 + 8 * j) % 8 = 0 by omega) z
      have hmk' := hmk.trans (Mk.i (g := g1) (j := 42) (v := iv (bfN (s.1 + 8 * j) + 1)) (by decide))
      have l : (s.2.1 ++ jv n :: bysV M (bfN s.1) j).length = s.2.1.length + 1 + j := by rw [List.length_append, List.length_cons, bysV_len]; omega
      refine ⟨(R0.fr c'.1).1.1.1.o, m_give R0 c' (fun y => ?_) fun y => ?_⟩
      · have y : (s.2.1 ++ jv n :: bysV M (bfN s.1) j).length < 160 := y
        obtain ⟨c3, b3⟩ := c'.give (v := (M (bfN (s.1 + 8 * j))).toInt64) y
        rw [iv1, iv_add]
        rintro _ rfl
        refine m_w106 R0 ns al hn hx kF kE i (j + 1) _ (by omega) ?_ (b3.trans (b'.trans hb)) (hmk'.trans ⟨⟨?_, ?_, ?_, ?_⟩, ?_⟩)
        · have e4 : (s.2.1 ++ jv n :: bysV M (bfN s.1) j) ++ [(M (bfN (s.1 + 8 * j))).toInt64] = s.2.1 ++ jv n :: bysV M (bfN s.1) (j + 1) := by
            rw [List.append_assoc, bj]; rfl
          have c3 : Cor L S g0 (s.1 + 8 * j + 8, (s.2.1 ++ jv n :: bysV M (bfN s.1) j) ++ [(M (bfN (s.1 + 8 * j))).toInt64], (stU S k s).2.2) _ := c3
          rw [e4] at c3
          rw [show s.1 + 8 * (j + 1) = s.1 + 8 * j + 8 by omega]
          exact c3
        · rw [hI_ne (by decide), hI_sL]
        · rw [hI_ne (by decide), hI_sL]
        · rw [hI_ne (by decide), hI_sL]
        · rw [hL_sI, hL_ne (by decide)]
        · rw [hI_o (by decide), hI_sL]
      · have y : ¬ (s.2.1 ++ jv n :: bysV M (bfN s.1) j).length < 160 := y
        rw [iv1, iv_add]
        rintro _ rfl
        unfold kbP at kE
        rw [if_neg (by omega)] at kE
        exact m_w106F hn (kE (show ¬ (2 : Int32) = 0 by decide)) i (j + 1) _ (by omega) (FlR.wr R0 c' (x := 3) (Or.inr rfl))
    · have z : L ≤ bfN (s.1 + 8 * j) := z
      omega
theorem m_w98 {K : Hp → Prop} {n : Nat} {y3 : Option Value} (R0 : Rm0 L M S g0) (ns : ¬ sz (tG S k 0) = true) (al : s.1 % 8 = 0) (hn : n < 1000) {B' : Nat} (hx : (x1 = 0 ∧ B' = s.1 + 8 * n ∧ bfN s.1 + n ≤ L) ∨ (x1 = 1 ∧ B' = s.1 + 8 * n + 8 ∧ bfN s.1 + n < L)) (c : Cor L S g0 (stU S k s) g) (hb : hI g 197 43 = btI s.1)
    (kF : (kbP M (bfN s.1) n B' s.2.1).1 = 0 → ∀ g', RxR L S g0 (mkU S k s (kbP M (bfN s.1) n B' s.2.1)).2 g' → Mk g g' → K g')
    (kE : ¬ (kbP M (bfN s.1) n B' s.2.1).1 = 0 → ∀ g', FlR g0 ((kbP M (bfN s.1) n B' s.2.1).1 + 1) (iv (s.1 / 8)) (tG S k 7) g' → K g') : Wp (d + 5) m_Mo_words 98 [some (.ref 197), some (.int x1), some (.int (iv n)), y3] [] g (QV K) := by
  have R := R0.fr c.1
  refine w_Mo_words_98 ⟨R.1.1.1.o, ?_⟩
  rw [iv_jv (by omega)]
  refine m_give R0 c (fun y => ?_) fun y => ?_
  · obtain ⟨c3, b3⟩ := c.give (v := jv n) y
    refine m_w106 R0 ns al hn hx kF kE n 0 _ (by omega) c3 (b3.trans hb) ⟨⟨?_, ?_, ?_, ?_⟩, ?_⟩
    · rw [hI_ne (by decide), hI_sL]
    · rw [hI_ne (by decide), hI_sL]
    · rw [hI_ne (by decide), hI_sL]
    · rw [hL_sI, hL_ne (by decide)]
    · rw [hI_o (by decide), hI_sL]
  · have y : ¬ s.2.1.length < 160 := y
    unfold kbP at kE
    rw [if_neg (by omega)] at kE
    exact m_w106F hn (kE (show ¬ (2 : Int32) = 0 by decide)) n 0 _ (by omega) (FlR.wr R0 c (x := 3) (Or.inr rfl))
end RDW
