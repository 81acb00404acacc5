/-! the Model writes a unit -/
section WRU
variable {d n : Nat} {V : Nat → Int64} {S : Tb} {g0 g : Hp} {k : Nat} {s : Ps Wo} {c : (Nat → Option Int64) × Int32 × Int32} {x p m : Int32}
theorem i32_in (v : Int64) : ¬ (v < -2147483648 ∨ 2147483647 < v) ↔ v = v.toInt32.toInt64 := by
  have a := Int32.le_toInt v.toInt32
  have b := Int32.toInt_lt v.toInt32
  constructor
  · intro h
    rw [Int64.lt_iff_toInt_lt, Int64.lt_iff_toInt_lt, show (-2147483648 : Int64).toInt = -2147483648 from by decide, show (2147483647 : Int64).toInt = 2147483647 from by decide] at h
    rw [← Int64.toInt_inj, Int32.toInt_toInt64, Int64.toInt_toInt32]
    exact (Int.bmod_eq_of_le (by omega) (by omega)).symm
  · intro h
    rw [Int64.lt_iff_toInt_lt, Int64.lt_iff_toInt_lt, show (-2147483648 : Int64).toInt = -2147483648 from by decide, show (2147483647 : Int64).toInt = 2147483647 from by decide, h, Int32.toInt_toInt64]
    omega
theorem i64_in (v : Int64) : ¬ (v < -9223372036854775808 ∨ 9223372036854775807 < v) := by
  rw [Int64.lt_iff_toInt_lt, Int64.lt_iff_toInt_lt, show (-9223372036854775808 : Int64).toInt = -9223372036854775808 from by decide, show (9223372036854775807 : Int64).toInt = 9223372036854775807 from by decide]
  have a := Int64.le_toInt v
  have b := Int64.toInt_lt v
  omega
theorem m_sizedW {K : Hp → Prop} (R0 : Wm0 n V S g0) (T : TW S) (hk : k < S.1) (hz : sz (tG S k 0) = true) (r : RxW n S g0 (s.1, s.2.1, s.2.2.1, iv (s.1 / 8), tG S k 7) g) (kk : ∀ o : Int32 × Nat × Wo × Int64, UWr V n S k s.1 s.2.1 = o → KfW n S g0 ((fun q => if q = k ∧ sz (tG S k 0) = true then some o.2.2.2 else s.2.2.1 q), iv (s.1 / 8), tG S k 7) g (o.1, o.2.1, o.2.2.1) K) : Ca (d + 12) m_Mo_sizedUnit [.ref 197, .int (iv k)] g (QV K) := by
  have R := R0.fr r.1.1
  have u90 := R.1.1.2.2.1
  have Mm := R.1.1.1
  have ax : ainr (iv k) 90 = true := ainr_iv (by omega) (by omega)
  have cx : (iv k).toNatClampNeg = k := iv_clamp (by omega)
  have kd : hI g 202 (iv k).toNatClampNeg = tG S k 0 := by rw [cx]; exact R.1.1.kd (by omega)
  obtain ⟨-, dg1, dg7, dg4⟩ := dg_num' (T.2.2.1 k hk).1 hz
  have n40 : ¬ hI g 197 40 = 0 := by rw [R.2.2]; decide
  have n114 : ¬ tG S k 0 = 114 := fun z => by rw [z] at hz; cases hz
  have n122 : ¬ tG S k 0 = 122 := fun z => by rw [z] at hz; cases hz
  have n102 : ¬ tG S k 0 = 102 := fun z => by rw [z] at hz; cases hz
  have n100 : ¬ tG S k 0 = 100 := fun z => by rw [z] at hz; cases hz
  have ew : wdN S k = dgN S k := by unfold wdN wdT; rw [if_neg n102, if_neg n100, if_pos hz]; rfl
  refine w_Mo_sizedUnit ⟨Mm.o, ?_⟩
  rw [Mm.r12, Mm.s202, kd]
  refine ⟨rfl, ax, ?_⟩
  -- the value, and what is behind it
  have tk : ∀ y : Int32, (∀ v g', V s.2.1.1 = v → s.2.1.1 < n → ¬ (v < loT S k ∨ hiT S k < v) → RxW n S g0 (s.1, (s.2.1.1 + 1, s.2.1.2), (fun q => if q = k ∧ sz (tG S k 0) = true then some v else s.2.2.1 q), iv (s.1 / 8), tG S k 7) g' → Mk g g' → if y = 0 then Ca (d + 11) m_Mo_writeNumber [.ref 197, .int (iv k), .long v] g' (QV K) else Ca (d + 11) m_Mo_writeBits [.ref 197, .long v, .int (iv (dgN S k))] g' (QV K)) → Ca (d + 11) m_Mo_take [.ref 197] g (QL (TwP (d + 11) K k y)) := by
    intro y ky
    refine m_wtake R0 r.1 (fun z g' fl => ?_) fun z g' c' b' hm => ?_
    · have z : ¬ s.2.1.1 < n := z
      refine m_twF (by omega) fl fun g'' fl' => ?_
      exact (kk (1, s.1, s.2.1, 0) (by unfold UWr; rw [if_neg z])).2 (show ¬ (1 : Int32) = 0 by decide) g'' fl'
    · have z : s.2.1.1 < n := z
      have eU : UWr V n S k s.1 s.2.1 = if V s.2.1.1 < loT S k ∨ hiT S k < V s.2.1.1 then (2, s.1, s.2.1, 0) else if tG S k 0 = 112 then wth (V s.2.1.1) (pbt (V s.2.1.1) (dgN S k) s.1 (s.2.1.1 + 1, s.2.1.2)) else wth (V s.2.1.1) (pby (byV (V s.2.1.1) (wdN S k) (decide (tG S k 0 = 118))) (wdN S k) 0 s.1 (s.2.1.1 + 1, s.2.1.2)) := by
        unfold UWr
        rw [if_pos z, if_neg n114, if_neg n122]
      refine m_tw R0 T hk hz (B := s.1) (w := (s.2.1.1 + 1, s.2.1.2)) (f := s.2.2.1) c' (fun q g'' fl => ?_) fun q g'' c'' b'' hm' => ?_
      · have q : V s.2.1.1 < loT S k ∨ hiT S k < V s.2.1.1 := q
        exact (kk (2, s.1, s.2.1, 0) (by rw [eU, if_pos q])).2 (show ¬ (2 : Int32) = 0 by decide) g'' fl
      · exact ky _ g'' rfl z q ⟨c'', by rw [b'', b', r.2]⟩ (hm.trans hm')
  have eU : s.2.1.1 < n → ¬ (V s.2.1.1 < loT S k ∨ hiT S k < V s.2.1.1) → UWr V n S k s.1 s.2.1 = if tG S k 0 = 112 then wth (V s.2.1.1) (pbt (V s.2.1.1) (dgN S k) s.1 (s.2.1.1 + 1, s.2.1.2)) else wth (V s.2.1.1) (pby (byV (V s.2.1.1) (wdN S k) (decide (tG S k 0 = 118))) (wdN S k) 0 s.1 (s.2.1.1 + 1, s.2.1.2)) := fun z q => by
    unfold UWr
    rw [if_pos z, if_neg n114, if_neg n122, if_neg q]
  by_cases c0 : tG S k 0 = 112
  · rw [if_pos c0, if_neg n40]
    refine tk 1 fun v g' ev z q r' hm => ?_
    subst ev
    rw [if_neg (by decide)]
    refine w_Mo_writeBits ?_
    rw [dwn_i (by omega)]
    rintro _ rfl
    have k2 := kk _ (eU z q)
    rw [if_pos c0] at k2
    exact m_wb5 (d := d + 9) R0 (dgN S k) s.1 (s.2.1.1 + 1, s.2.1.2) g' _ (by omega) r' (k2.to hm)
  · rw [if_neg c0, if_neg n40]
    have dg4 := dg4 c0
    refine tk 0 fun v g' ev z q r' hm => ?_
    subst ev
    rw [if_pos rfl]
    have R' := R0.fr r'.1.1
    have wd : hI g' 203 k = iv (dgN S k) := by
      rw [R'.1.1.f (j := 1) (by decide) hk]
      exact (dg_num' (T.2.2.1 k hk).1 hz).1
    refine w_Mo_writeNumber ⟨R'.1.1.1.o, ?_⟩
    rw [R'.1.1.1.r13, R'.1.1.1.s203, cx, wd]
    refine ⟨rfl, ax, ?_⟩
    rintro _ rfl
    have k2 := kk _ (eU z q)
    rw [if_neg c0, ew] at k2
    exact m_wn11 (d := d + 9) R0 hk (by omega) (dgN S k) 0 s.1 (s.2.1.1 + 1, s.2.1.2) g' (by omega) r' (k2.to hm)
/-- **the Model writes a unit as the pure pass does** -/
theorem wr_unm (R0 : Wm0 n V S g0) (T : TW S) : UnM S (UWr V n S) (RxW n S g0) (FlR g0) := by
  intro d k s g K y3 hk hu rx al kF kE
  obtain ⟨cr, hb⟩ := id rx
  have R := R0.fr cr.1
  have Mm := R.1.1.1
  have u90 := R.1.1.2.2.1
  have l120 := cr.2.2.1.2
  -- behind spot and name
  have body : Ca (d + 12) m_Mo_nameAround [.ref 197, .int (iv k)] (sI g 197 47 (iv (s.1 / 8))) (QI fun v45 h46 => (hS h46 197).1 = 8 ∧ ∀ h49 : Hp, h49 = sI h46 197 48 v45 → Ca (d + 12) m_Mo_sized [.ref 197, .int (tG S k 0)] h49 (QI fun v50 h51 => if v50 = 0 then (if tG S k 0 = 102 then ((hS h51 197).1 = 8 ∧ Ca (d + 12) m_Mo_floating [.ref 197, .int (iv k)] h51 (QV K)) else (if tG S k 0 = 100 then ((hS h51 197).1 = 8 ∧ Ca (d + 12) m_Mo_floating [.ref 197, .int (iv k)] h51 (QV K)) else ((hS h51 197).1 = 8 ∧ (if hI h51 197 40 = 0 then (if tG S k 0 = 122 then Ca (d + 12) m_Mo_words [.ref 197, .int 1] h51 (QV K) else Ca (d + 12) m_Mo_words [.ref 197, .int 0] h51 (QV K)) else (if tG S k 0 = 122 then Ca (d + 12) m_Mo_writeWords [.ref 197, .int 1] h51 (QV K) else Ca (d + 12) m_Mo_writeWords [.ref 197, .int 0] h51 (QV K)))))) else ((hS h51 197).1 = 8 ∧ Ca (d + 12) m_Mo_sizedUnit [.ref 197, .int (iv k)] h51 (QV K)))) := by
    have f1 : MdF g (sI g 197 47 (iv (s.1 / 8))) := MdF.i (by omega)
    refine w_Mo_nameAround (m_nameF (f1.tab R.1.1) T (k + 1) k _ (by omega) hk ?_)
    refine ⟨Mm.o, ?_⟩
    rintro _ rfl
    have r2 : RxW n S g0 (s.1, s.2.1, s.2.2.1, iv (s.1 / 8), tG S k 7) (sI (sI g 197 47 (iv (s.1 / 8))) 197 48 (tG S k 7)) := by
      obtain ⟨c1, c2, ⟨c3, c4⟩, ⟨c5, c6⟩, ⟨c7, c8⟩, c9, c10⟩ := cr
      have e : ∀ i, ¬ i = 47 → ¬ i = 48 → hI (sI (sI g 197 47 (iv (s.1 / 8))) 197 48 (tG S k 7)) 197 i = hI g 197 i := fun i h1 h2 => by rw [hI_o (by omega), hI_o (by omega)]
      exact ⟨⟨(c1.trans f1).trans (MdF.i (by omega)), by rw [e 41 (by omega) (by omega)]; exact c2, ⟨by rw [e 42 (by omega) (by omega)]; exact c3, c4⟩, ⟨by rw [hI_o (by omega), hI_s], hI_s⟩, ⟨by rw [e 46 (by omega) (by omega)]; exact c7, c8⟩, fun i hi => by rw [hI_ne (by decide), hI_ne (by decide)]; exact c9 i hi, c10⟩, by rw [e 43 (by omega) (by omega)]; exact hb⟩
    have mu : Mk g (sI (sI g 197 47 (iv (s.1 / 8))) 197 48 (tG S k 7)) := (Mk.i (by decide)).trans (Mk.i (by decide))
    have kk : ∀ o : Int32 × Nat × Wo × Int64, UWr V n S k s.1 s.2.1 = o → KfW n S g0 ((fun q => if q = k ∧ sz (tG S k 0) = true then some o.2.2.2 else s.2.2.1 q), iv (s.1 / 8), tG S k 7) (sI (sI g 197 47 (iv (s.1 / 8))) 197 48 (tG S k 7)) (o.1, o.2.1, o.2.2.1) K := by
      rintro _ rfl
      exact ⟨fun z g' r hm => kF z g' r (mu.trans hm), kE⟩
    generalize sI (sI g 197 47 (iv (s.1 / 8))) 197 48 (tG S k 7) = g2 at r2 mu kk ⊢
    have Ru := R0.fr r2.1.1
    have Mu := Ru.1.1.1
    have n40 : ¬ hI g2 197 40 = 0 := by rw [Ru.2.2]; decide
    refine w_Mo_sized ?_
    have szd : sz (tG S k 0) = true → (hS g2 197).1 = 8 ∧ Ca (d + 12) m_Mo_sizedUnit [.ref 197, .int (iv k)] g2 (QV K) := fun hz => ⟨Mu.o, m_sizedW R0 T hk hz r2 kk⟩
    by_cases a1 : tG S k 0 = 117
    · rw [if_pos a1, if_neg (by decide)]; exact szd (by rw [a1]; rfl)
    rw [if_neg a1]
    by_cases a2 : tG S k 0 = 118
    · rw [if_pos a2, if_neg (by decide)]; exact szd (by rw [a2]; rfl)
    rw [if_neg a2]
    by_cases a3 : tG S k 0 = 115
    · rw [if_pos a3, if_neg (by decide)]; exact szd (by rw [a3]; rfl)
    rw [if_neg a3]
    by_cases a4 : tG S k 0 = 112
    · rw [if_pos a4, if_neg (by decide)]; exact szd (by rw [a4]; rfl)
    rw [if_neg a4, if_pos rfl]
    have ns : ¬ sz (tG S k 0) = true := fun z => by
      unfold sz at z
      rw [decide_eq_false a1, decide_eq_false a2, decide_eq_false a3, decide_eq_false a4] at z; cases z
    have cx : (iv k).toNatClampNeg = k := iv_clamp (by omega)
    have ax : ainr (iv k) 90 = true := ainr_iv (by omega) (by omega)
    have ku : hI g2 202 (iv k).toNatClampNeg = tG S k 0 := by rw [cx]; exact Ru.1.1.kd (by omega)
    -- the values known are the same ones
    have kv : ∀ (o : Int32 × Nat × Wo) (x : Int64), UWr V n S k s.1 s.2.1 = wth x o → KfW n S g0 (s.2.2.1, iv (s.1 / 8), tG S k 7) g2 o K := fun o x e => by
      have q := kk _ e
      refine ⟨fun z g' r hm => q.1 z g' ⟨⟨r.1.1, r.1.2.1, r.1.2.2.1, r.1.2.2.2.1, r.1.2.2.2.2.1, r.1.2.2.2.2.2.1, fun q v hq => ?_⟩, r.2⟩ hm, q.2⟩
      have hq : (if q = k ∧ sz (tG S k 0) = true then some x else s.2.2.1 q) = some v := hq
      rw [if_neg (fun z => ns z.2)] at hq
      exact r.1.2.2.2.2.2.2 q v hq
    have k1 : ¬ s.2.1.1 < n → KfW n S g0 (s.2.2.1, iv (s.1 / 8), tG S k 7) g2 ((1 : Int32), s.1, s.2.1) K := fun z => kv _ 0 (by unfold UWr; rw [if_neg z]; rfl)
    have fl0 : (tG S k 0 = 102 ∨ tG S k 0 = 100) → Ca (d + 12) m_Mo_floating [.ref 197, .int (iv k)] g2 (QV K) := by
      intro h
      have a5 : ¬ tG S k 0 = 114 := fun z => by rcases h with h | h <;> rw [h] at z <;> exact absurd z (by decide)
      have a6 : ¬ tG S k 0 = 122 := fun z => by rcases h with h | h <;> rw [h] at z <;> exact absurd z (by decide)
      have ed : decide (tG S k 0 = 118) = false := decide_eq_false a2
      have eU : s.2.1.1 < n → UWr V n S k s.1 s.2.1 = if V s.2.1.1 < loT S k ∨ hiT S k < V s.2.1.1 then wth 0 (2, s.1, s.2.1) else wth (V s.2.1.1) (pby (byV (V s.2.1.1) (wdN S k) false) (wdN S k) 0 s.1 (s.2.1.1 + 1, s.2.1.2)) := fun z => by
        unfold UWr
        rw [if_pos z, if_neg a5, if_neg a6, if_neg a4, ed]; rfl
      -- the bytes behind the value
      have go : ∀ (wd : Nat) (y1 y2 : Option Value) (g' : Hp), wd ≤ 8 → wdN S k = wd → s.2.1.1 < n → ¬ (V s.2.1.1 < loT S k ∨ hiT S k < V s.2.1.1) → CoW n S g0 (s.1, (s.2.1.1 + 1, s.2.1.2), s.2.2.1, iv (s.1 / 8), tG S k 7) g' → hI g' 197 43 = hI g2 197 43 → Mk g2 g' → Wp (d + 12) m_Mo_floating 57 [some (.ref 197), y1, y2, some (.long (V s.2.1.1)), none, some (.int (dwn wd))] [] g' (QV K) := by
        intro wd y1 y2 g' w8 ew z q c' b' hm
        have k2 := kv _ _ (by rw [eU z, if_neg q])
        rw [ew] at k2
        exact m_wf57 (d := d + 10) R0 w8 wd 0 s.1 (s.2.1.1 + 1, s.2.1.2) g' (by omega) ⟨c', by rw [b', r2.2]⟩ (k2.to hm)
      refine w_Mo_floating ⟨Mu.o, ?_⟩
      rw [Mu.r12, Mu.s202, ku]
      refine ⟨rfl, ax, ?_⟩
      by_cases b1 : tG S k 0 = 102
      · have ew : wdN S k = 4 := by unfold wdN wdT; rw [if_pos b1]; rfl
        have lo : loT S k = -2147483648 := by unfold loT; rw [if_pos b1]; decide +kernel
        have hi : hiT S k = 2147483647 := by unfold hiT; rw [if_pos b1]; decide +kernel
        rw [if_pos b1, if_neg n40]
        refine m_wtake R0 r2.1 (fun z g' fl => ?_) fun z g' c' b' hm => ?_
        · have z : ¬ s.2.1.1 < n := z
          have kg := (k1 z).2 (show ¬ (1 : Int32) = 0 by decide) g' fl
          rw [if_pos rfl]
          split
          · refine ⟨fl.o.1, m_wrongF fl ?_⟩
            rw [show (4 : Int32) - 1 = dwn 4 from dwn_i (r := 4) (by omega)]
            rintro _ rfl
            exact m_wf57F (d := d + 10) fl kg 4 (by omega)
          · refine ⟨fl.o.1, m_wrongF fl ?_⟩
            rw [show (4 : Int32) - 1 = dwn 4 from dwn_i (r := 4) (by omega)]
            rintro _ rfl
            exact m_wf57F (d := d + 10) fl kg 4 (by omega)
        · have z : s.2.1.1 < n := z
          have c' : CoW n S g0 (s.1, (s.2.1.1 + 1, s.2.1.2), s.2.2.1, iv (s.1 / 8), tG S k 7) g' := c'
          have o := (R0.fr c'.1).1.1.1.o
          rw [if_pos rfl]
          show (if V s.2.1.1 = (V s.2.1.1).toInt32.toInt64 then _ else _)
          by_cases q : V s.2.1.1 = (V s.2.1.1).toInt32.toInt64
          · rw [if_pos q]
            refine ⟨o, w_Mo_wrong ?_⟩
            rw [if_pos rfl, show (4 : Int32) - 1 = dwn 4 from dwn_i (r := 4) (by omega)]
            rintro _ rfl
            exact go 4 _ _ g' (by omega) ew z (by rw [lo, hi]; exact (i32_in _).mpr q) c' b' hm
          · rw [if_neg q]
            have fl := FlR.ww R0 c' (x := 3) (Or.inr rfl)
            have k2 := kv _ _ (by rw [eU z, if_pos (Classical.byContradiction fun y => q ((i32_in _).mp (by rw [lo, hi] at y; exact y)))])
            refine ⟨o, m_wrong3 R0 c' ?_⟩
            rw [show (4 : Int32) - 1 = dwn 4 from dwn_i (r := 4) (by omega)]
            rintro _ rfl
            exact m_wf57F (d := d + 10) fl (k2.2 (show ¬ (2 : Int32) = 0 by decide) _ fl) 4 (by omega)
      · have b2 := h.resolve_left b1
        have ew : wdN S k = 8 := by unfold wdN wdT; rw [if_neg b1, if_pos b2]; rfl
        have lo : loT S k = -9223372036854775808 := by unfold loT; rw [if_neg b1, if_pos b2]; decide +kernel
        have hi : hiT S k = 9223372036854775807 := by unfold hiT; rw [if_neg b1, if_pos b2]; decide +kernel
        rw [if_neg b1, if_neg n40]
        refine m_wtake R0 r2.1 (fun z g' fl => ?_) fun z g' c' b' hm => ?_
        · have z : ¬ s.2.1.1 < n := z
          have kg := (k1 z).2 (show ¬ (1 : Int32) = 0 by decide) g' fl
          rw [if_neg (by decide)]
          refine ⟨fl.o.1, m_wrongF fl ?_⟩
          rw [show (8 : Int32) - 1 = dwn 8 from dwn_i (r := 8) (by omega)]
          rintro _ rfl
          exact m_wf57F (d := d + 10) fl kg 8 (by omega)
        · have z : s.2.1.1 < n := z
          have c' : CoW n S g0 (s.1, (s.2.1.1 + 1, s.2.1.2), s.2.2.1, iv (s.1 / 8), tG S k 7) g' := c'
          have o := (R0.fr c'.1).1.1.1.o
          rw [if_neg (by decide)]
          refine ⟨o, w_Mo_wrong ?_⟩
          rw [if_pos rfl, show (8 : Int32) - 1 = dwn 8 from dwn_i (r := 8) (by omega)]
          rintro _ rfl
          exact go 8 _ _ g' (by omega) ew z (by rw [lo, hi]; exact i64_in _) c' b' hm
    by_cases a5 : tG S k 0 = 102
    · rw [if_pos a5]; exact ⟨Mu.o, fl0 (Or.inl a5)⟩
    rw [if_neg a5]
    by_cases a6 : tG S k 0 = 100
    · rw [if_pos a6]; exact ⟨Mu.o, fl0 (Or.inr a6)⟩
    rw [if_neg a6]
    refine ⟨Mu.o, ?_⟩
    rw [if_neg n40]
    -- rows of bytes
    have row : ∀ (z : Bool) (N : Nat), N < 1000 → (s.2.1.1 < n → UWr V n S k s.1 s.2.1 = if V s.2.1.1 < 0 ∨ jv N < V s.2.1.1 then wth 0 (2, s.1, s.2.1) else wth 0 (owd V n z (V s.2.1.1).toInt.toNat s.1 (s.2.1.1 + 1, s.2.1.2))) → (N = if z = true then 20 else 120) → Ca (d + 12) m_Mo_writeWords [.ref 197, .int (zI z)] g2 (QV K) := by
      intro z N hN eU eN
      have p41 : ∀ (v : Int64) (g' : Hp), V s.2.1.1 = v → s.2.1.1 < n → ¬ (v < 0 ∨ jv N < v) → CoW n S g0 (s.1, (s.2.1.1 + 1, s.2.1.2), s.2.2.1, iv (s.1 / 8), tG S k 7) g' → hI g' 197 43 = hI g2 197 43 → Mk g2 g' → Wp (d + 12) m_Mo_writeWords 41 [some (.ref 197), some (.int (zI z)), some (.long v), none, some (.int 0), none, none] [] g' (QV K) := by
        intro v g' ev tn q c' b' hm
        subst ev
        have k2 := kv _ _ (by rw [eU tn, if_neg q])
        have e := jv_of (fun y => q (Or.inl y))
        have l : (V s.2.1.1).toInt.toNat ≤ N := (jv_i32' hN (fun y => q (Or.inl y)) (fun y => q (Or.inr y))).2
        generalize (V s.2.1.1).toInt.toNat = M at e l k2
        rw [e]
        exact m_ww41 (d := d + 10) z (M := M) (by omega) R0 M 0 s.1 (s.2.1.1 + 1, s.2.1.2) g' _ _ (by omega) ⟨c', by rw [b', r2.2]⟩ (k2.to hm)
      refine w_Mo_writeWords ⟨Mu.o, m_wtake R0 r2.1 (fun y g' fl => ?_) fun y g' c' b' hm => ?_⟩
      · have y : ¬ s.2.1.1 < n := y
        have kg := (k1 y).2 (show ¬ (1 : Int32) = 0 by decide) g' fl
        have o : ∀ x x1, (hS g' 197).1 = 8 ∧ Ca (d + 11) m_Mo_wrong [.ref 197, .int x] g' (QV fun h6 => Wp (d + 12) m_Mo_writeWords 41 [some (.ref 197), some (.int x1), some (.long 0), none, some (.int 0), none, none] [] h6 (QV K)) := fun x x1 => ⟨fl.o.1, m_wrongF fl (m_ww41F (d := d + 10) fl kg)⟩
        split
        · exact o _ _
        · split
          · split
            · exact o _ _
            · exact o _ _
          · split
            · exact o _ _
            · exact o _ _
      · have y : s.2.1.1 < n := y
        have c' : CoW n S g0 (s.1, (s.2.1.1 + 1, s.2.1.2), s.2.2.1, iv (s.1 / 8), tG S k 7) g' := c'
        have o := (R0.fr c'.1).1.1.1.o
        have p := p41 _ g' rfl y
        have bad : (V s.2.1.1 < 0 ∨ jv N < V s.2.1.1) → (hS g' 197).1 = 8 ∧ Ca (d + 11) m_Mo_wrong [.ref 197, .int 1] g' (QV fun h6 => Wp (d + 12) m_Mo_writeWords 41 [some (.ref 197), some (.int (zI z)), some (.long (V s.2.1.1)), none, some (.int 0), none, none] [] h6 (QV K)) := fun q => by
          have fl := FlR.ww R0 c' (x := 3) (Or.inr rfl)
          have k2 := kv _ _ (by rw [eU y, if_pos q])
          exact ⟨o, m_wrong3 R0 c' (m_ww41F (d := d + 10) fl (k2.2 (show ¬ (2 : Int32) = 0 by decide) _ fl))⟩
        have good : ¬ (V s.2.1.1 < 0 ∨ jv N < V s.2.1.1) → (hS g' 197).1 = 8 ∧ Ca (d + 11) m_Mo_wrong [.ref 197, .int 0] g' (QV fun h6 => Wp (d + 12) m_Mo_writeWords 41 [some (.ref 197), some (.int (zI z)), some (.long (V s.2.1.1)), none, some (.int 0), none, none] [] h6 (QV K)) := fun q => by
          refine ⟨o, w_Mo_wrong ?_⟩
          rw [if_pos rfl]
          exact p q c' b' hm
        show (if V s.2.1.1 < 0 then _ else if zI z = 0 then _ else _)
        by_cases q : V s.2.1.1 < 0
        · rw [if_pos q]; exact bad (Or.inl q)
        · rw [if_neg q]
          cases z with
          | false =>
            have eN : N = 120 := eN
            subst eN
            rw [if_pos (show zI false = 0 from rfl)]
            by_cases q2 : (120 : Int64) < V s.2.1.1
            · rw [if_pos q2]; exact bad (Or.inr q2)
            · rw [if_neg q2]; exact good (fun z => z.elim q q2)
          | true =>
            have eN : N = 20 := eN
            subst eN
            rw [if_neg (show ¬ zI true = 0 by decide)]
            by_cases q2 : (20 : Int64) < V s.2.1.1
            · rw [if_pos q2]; exact bad (Or.inr q2)
            · rw [if_neg q2]; exact good (fun z => z.elim q q2)
    by_cases a7 : tG S k 0 = 122
    · rw [if_pos a7]
      refine row true 20 (by decide) (fun z => ?_) rfl
      unfold UWr
      rw [if_pos z, if_neg (by rw [a7]; decide), if_pos a7]; rfl
    · rw [if_neg a7]
      have a8 : tG S k 0 = 114 := by
        have := hu.resolve_left ns
        unfold sm at this
        simp only [Bool.or_eq_true, decide_eq_true_iff] at this
        rcases this with ((z | z) | z) | z
        · exact absurd z a5
        · exact absurd z a6
        · exact absurd z a7
        · exact z
      refine row false 120 (by decide) (fun z => ?_) rfl
      unfold UWr
      rw [if_pos z, if_pos a8]; rfl
  refine w_Mo_unit_52 ⟨Mm.o, ?_⟩
  rw [cr.2.1, if_neg (by decide), hb, cr.2.2.1.1]
  by_cases a8 : s.1 % 8 = 0
  · rw [show btI s.1 = 8 from if_pos a8, if_neg (by decide)]
    rintro _ rfl
    rw [show bfN s.1 = s.1 / 8 by unfold bfN; omega]
    exact body
  · rw [show btI s.1 = iv (s.1 % 8) from if_neg a8, if_pos (show iv (s.1 % 8) < 8 from (iv_lt (a := s.1 % 8) (b := 8) (by omega) (by omega)).mpr (by omega)), iv1, iv_sub (by unfold bfN; omega)]
    rintro _ rfl
    rw [show bfN s.1 - 1 = s.1 / 8 by unfold bfN; omega]
    exact body
theorem wr_rest (R0 : Wm0 n V S g0) : RsH (RxW n S g0) (RyW n S g0) (fun _ _ => False) (FlR g0) := by
  refine ⟨fun d s g K y k => ?_, fun d s g K y k => y.elim, fun s g q => ?_⟩
  · obtain ⟨c, al, hb⟩ := y
    have R := R0.fr c.1
    have Mm := R.1.1.1
    have f0 : Wp (d + 1) m_Mo_rest 51 [some (.ref 197)] [] g (QV K) := by
      refine w_Mo_rest_51 ⟨Mm.o, ?_⟩
      rw [if_pos c.2.1]
      rintro _ rfl
      exact k _ ⟨c.set (Or.inr rfl), by rw [hI_s]; exact (if_pos al).symm⟩ (Mk.i (by decide))
    refine w_Mo_rest ⟨Mm.o, ?_⟩
    rw [if_neg (show ¬ hI g 197 40 = 0 by rw [R.2.2]; decide)]
    split
    · exact f0
    · exact f0
  · rcases q with q | q
    · exact FlR.ww R0 q.1 (Or.inr rfl)
    · exact q.elim
/-- all that the Model's machine wants, for writing -/
theorem wr_mh (R0 : Wm0 n V S g0) (T : TW S) : MH S (UWr V n S) spWr (RxW n S g0) (RyW n S g0) (fun _ _ => False) (FlR g0) := by
  refine ⟨⟨fun s g x => x.1.bm R0, fun s g y => ⟨y.1.bm R0, y.2.1⟩, fun s g y => y.elim⟩, ⟨fun s g g' m x => ⟨x.1.mch m, by rw [m.2.2.1 43 (by decide)]; exact x.2⟩, fun s g g' m y => ⟨y.1.mch m, y.2.1, by rw [m.2.2.1 43 (by decide)]; exact y.2.2⟩, fun s g g' m y => y⟩, ⟨fun s g x al => ⟨x.1, al, Or.inl (by rw [x.2]; exact if_pos al)⟩, fun s g x => ⟨fun _ => ?_, fun z => absurd rfl z⟩⟩, wr_rest R0, wr_unm R0 T, fl_h⟩
  obtain ⟨⟨c1, c2, ⟨c3, c4⟩, c5, c7, c9, c10⟩, hb⟩ := x
  have e8 : bfN (8 * bfN s.1) = bfN s.1 := by unfold bfN; omega
  refine ⟨⟨c1, c2, ⟨?_, ?_⟩, c5, c7, fun i hi => ?_, c10⟩, ?_, ?_⟩
  · rw [c3]; show _ = iv (bfN (8 * bfN s.1)); rw [e8]
  · show bfN (8 * bfN s.1) ≤ 120; omega
  · have hi : i < bfN (8 * bfN s.1) := hi
    exact c9 i (by omega)
  · show 8 * bfN s.1 % 8 = 0; omega
  · rw [hb]
    unfold btI
    by_cases q : s.1 % 8 = 0
    · rw [if_pos q]; exact Or.inl rfl
    · rw [if_neg q]; exact Or.inr ⟨s.1 % 8, by omega, rfl⟩
end WRU
