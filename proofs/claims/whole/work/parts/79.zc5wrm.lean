/-! the Model's parts of writing -/
section WRM
variable {d n : Nat} {V : Nat → Int64} {S : Tb} {g0 g : Hp} {k : Nat} {s : Ps Wo} {c p m : Int32}
/-- where the Model's writing begins -/
def Wm0 (n : Nat) (V : Nat → Int64) (S : Tb) (g : Hp) : Prop := (TabM g S ∧ Sa g S S.1) ∧ (hI g 197 9 = iv n ∧ n ≤ 160 ∧ ∀ i, i < n → hL g 201 i = V i) ∧ hI g 197 40 = 1
theorem Wm0.fr {g' : Hp} (R : Wm0 n V S g) (f : MdF g g') : Wm0 n V S g' := by
  obtain ⟨⟨r1, r2⟩, ⟨r3, r4, r5⟩, r8⟩ := R
  have e : ∀ j, (j = 9 ∨ j = 40) → hI g' 197 j = hI g 197 j := fun j hj => f.2.2.1 j (by omega) (by omega) (by omega) (by omega) (by omega) (by omega) (by omega)
  exact ⟨⟨f.tab r1, f.sa r2⟩, ⟨by rw [e 9 (Or.inl rfl)]; exact r3, r4, fun i hi => by rw [f.2.2.2 201 (by decide) (by decide) (by decide)]; exact r5 i hi⟩, by rw [e 40 (Or.inr rfl)]; exact r8⟩
def CoW (n : Nat) (S : Tb) (g0 : Hp) (s : Ps Wo) (g : Hp) : Prop := MdF g0 g ∧ hI g 197 41 = 0 ∧ (hI g 197 42 = iv (bfN s.1) ∧ bfN s.1 ≤ 120) ∧ (hI g 197 47 = s.2.2.2.1 ∧ hI g 197 48 = s.2.2.2.2) ∧ (hI g 197 46 = iv s.2.1.1 ∧ s.2.1.1 ≤ n) ∧ (∀ i, i < bfN s.1 → hI g 227 i = s.2.1.2 i) ∧ (∀ q v, s.2.2.1 q = some v → (q < S.1 ∧ sz (tG S q 0) = true) ∧ hL g 222 q = v)
def RxW (n : Nat) (S : Tb) (g0 : Hp) (s : Ps Wo) (g : Hp) : Prop := CoW n S g0 s g ∧ hI g 197 43 = btI s.1
def RyW (n : Nat) (S : Tb) (g0 : Hp) (s : Ps Wo) (g : Hp) : Prop := CoW n S g0 s g ∧ s.1 % 8 = 0 ∧ (hI g 197 43 = 8 ∨ ∃ r, r < 8 ∧ hI g 197 43 = iv r)
theorem MdF.r {j : Nat} {v : Int32} : MdF g (sI g 227 j v) := ⟨⟨rfl, rfl, rfl, rfl, rfl⟩, fun a _ _ _ _ h5 => hI_ne h5, fun i _ _ _ _ _ _ _ => hI_o (by omega), fun _ _ _ _ => rfl⟩
theorem Mk.r {j : Nat} {v : Int32} : Mk g (sI g 227 j v) := ⟨⟨hI_ne (by decide), hI_ne (by decide), hI_ne (by decide), rfl⟩, hI_o (by omega)⟩
theorem Mk.v {j : Nat} {v : Int64} : Mk g (sL g 222 j v) := ⟨⟨rfl, rfl, rfl, hL_ne (by decide)⟩, rfl⟩
theorem CoW.mch {g' : Hp} (c : CoW n S g0 s g) (m : Mch g g') : CoW n S g0 s g' := by
  obtain ⟨c1, c2, ⟨c3, c4⟩, ⟨c5, c6⟩, ⟨c7, c8⟩, c9, c10⟩ := c
  have e : ∀ j, ¬ j = 39 → hI g' 197 j = hI g 197 j := m.2.2.1
  exact ⟨c1.trans m.mdf, by rw [e 41 (by decide)]; exact c2, ⟨by rw [e 42 (by decide)]; exact c3, c4⟩, ⟨by rw [e 47 (by decide)]; exact c5, by rw [e 48 (by decide)]; exact c6⟩, ⟨by rw [e 46 (by decide)]; exact c7, c8⟩, fun i hi => by rw [m.2.1 227 (by decide) (by decide) (by decide) (by decide)]; exact c9 i hi, fun q v hq => by rw [m.2.2.2 222 (by decide)]; exact c10 q v hq⟩
theorem CoW.bm (R : Wm0 n V S g0) (c : CoW n S g0 s g) : Bm S s g := by
  obtain ⟨⟨T, A⟩, -, -⟩ := R.fr c.1
  have := c.2.2.1.2
  exact ⟨T, A, c.2.1, ⟨c.2.2.1.1, by unfold bfN at this; omega⟩, fun q v hq => ⟨(c.2.2.2.2.2.2 q v hq).1.1, (c.2.2.2.2.2.2 q v hq).2⟩⟩
theorem CoW.set (c : CoW n S g0 s g) {j : Nat} {v : Int32} (h : j = 39 ∨ j = 43) : CoW n S g0 s (sI g 197 j v) := by
  obtain ⟨c1, c2, ⟨c3, c4⟩, ⟨c5, c6⟩, ⟨c7, c8⟩, c9, c10⟩ := c
  have e : ∀ i, ¬ i = j → hI (sI g 197 j v) 197 i = hI g 197 i := fun i hi => hI_o (by omega)
  exact ⟨c1.trans (MdF.i (by omega)), by rw [e 41 (by omega)]; exact c2, ⟨by rw [e 42 (by omega)]; exact c3, c4⟩, ⟨by rw [e 47 (by omega)]; exact c5, by rw [e 48 (by omega)]; exact c6⟩, ⟨by rw [e 46 (by omega)]; exact c7, c8⟩, fun i hi => by rw [hI_ne (by decide)]; exact c9 i hi, c10⟩
theorem FlR.ww (R : Wm0 n V S g0) (c : CoW n S g0 s g) {x : Int32} (hx : x = 2 ∨ x = 3) : FlR g0 x s.2.2.2.1 s.2.2.2.2 (sI g 197 41 x) := ⟨⟨c.1.trans (MdF.i (by omega)), ⟨hI_s, hx⟩, by rw [hI_o (by omega)]; exact c.2.2.2.1.1, by rw [hI_o (by omega)]; exact c.2.2.2.1.2⟩, R.1.1.1⟩
theorem FlR.n0 (fl : FlR g0 c p m g) : ¬ hI g 197 41 = 0 := fun z => by
  obtain ⟨o, f, c0, -⟩ := fl.o
  rw [z] at f; rw [← f] at c0; exact absurd c0 (by decide)
theorem FlR.p0 (fl : FlR g0 c p m g) : 0 < hI g 197 41 := by
  obtain ⟨o, f, c0, -⟩ := fl.o
  rw [f]; exact c0
/-- nothing happens once there is a fault -/
theorem m_wrongF {K : Hp → Prop} {x : Int32} (fl : FlR g0 c p m g) (kk : K g) : Ca d m_Mo_wrong [.ref 197, .int x] g (QV K) := by
  refine w_Mo_wrong ?_
  split
  · exact kk
  · exact ⟨fl.o.1, by rw [if_neg fl.n0]; exact kk⟩
theorem m_takeF {K : Int64 → Hp → Prop} (fl : FlR g0 c p m g) (kk : K 0 g) : Ca d m_Mo_take [.ref 197] g (QL K) := by
  have q : Wp d m_Mo_take 23 [some (.ref 197)] [] g (QL K) := w_Mo_take_23 ⟨fl.o.1, by rw [if_pos fl.p0]; exact kk⟩
  refine w_Mo_take ⟨fl.o.1, ?_⟩
  split
  · rw [if_neg fl.n0]; exact q
  · exact q
theorem m_putF {K : Hp → Prop} {x : Int32} (fl : FlR g0 c p m g) (kk : K g) : Ca (d + 1) m_Mo_putByte [.ref 197, .int x] g (QV K) := by
  refine w_Mo_putByte ⟨fl.o.1, ?_⟩
  split
  · exact m_wrongF fl ⟨fl.o.1, by rw [if_pos fl.p0]; exact kk⟩
  · exact m_wrongF fl ⟨fl.o.1, by rw [if_pos fl.p0]; exact kk⟩
theorem m_wrong3 {K : Hp → Prop} (R0 : Wm0 n V S g0) (c : CoW n S g0 s g) (kk : K (sI g 197 41 3)) : Ca d m_Mo_wrong [.ref 197, .int 1] g (QV K) := by
  refine w_Mo_wrong ?_
  rw [if_neg (by decide)]
  refine ⟨(R0.fr c.1).1.1.1.o, ?_⟩
  rw [if_pos c.2.1]
  rintro _ rfl; exact kk
theorem m_wtake {K : Int64 → Hp → Prop} (R0 : Wm0 n V S g0) (c : CoW n S g0 s g) (k1 : ¬ s.2.1.1 < n → ∀ g', FlR g0 2 s.2.2.2.1 s.2.2.2.2 g' → K 0 g') (k0 : s.2.1.1 < n → ∀ g', CoW n S g0 (s.1, (s.2.1.1 + 1, s.2.1.2), s.2.2) g' → hI g' 197 43 = hI g 197 43 → Mk g g' → K (V s.2.1.1) g') : Ca d m_Mo_take [.ref 197] g (QL K) := by
  have R := R0.fr c.1
  have Mm := R.1.1.1
  have n160 := R.2.1.2.1
  obtain ⟨c1, c2, ⟨c3, c4⟩, ⟨c5, c6⟩, ⟨c7, c8⟩, c9, c10⟩ := id c
  refine w_Mo_take ⟨Mm.o, ?_⟩
  rw [c7, R.2.1.1]
  by_cases q : s.2.1.1 < n
  · rw [if_neg (fun z => by have := (iv_inj (by omega) (by omega)).mp z; omega)]
    refine w_Mo_take_23 ⟨Mm.o, ?_⟩
    rw [c2, if_neg (by decide), c7, iv1, iv_add]
    rintro _ rfl
    have e : iv (s.2.1.1 + 1) - 1 = iv s.2.1.1 := iv_dec
    have k0 := k0 q (sI g 197 46 (iv (s.2.1.1 + 1))) ⟨c1.trans (MdF.i (by omega)), by rw [hI_o (by omega)]; exact c2, ⟨by rw [hI_o (by omega)]; exact c3, c4⟩, ⟨by rw [hI_o (by omega)]; exact c5, by rw [hI_o (by omega)]; exact c6⟩, ⟨hI_s, q⟩, fun i hi => by rw [hI_ne (by decide)]; exact c9 i hi, c10⟩ (hI_o (by omega)) (Mk.i (by decide))
    rw [← R.2.1.2.2 _ q] at k0
    have ax : ainr (iv s.2.1.1) 161 = true := ainr_iv (by omega) (by omega)
    have cx : (iv s.2.1.1).toNatClampNeg = s.2.1.1 := iv_clamp (by omega)
    simp only [hR_sI, hS_sI, Mm.o, Mm.r8, Mm.s201, hI_s, true_and, show iv 1 = (1 : Int32) from rfl, e, ax, cx, hL_sI]
    exact k0
  · rw [if_pos (by congr 1; omega), if_pos c2]
    rintro _ rfl
    refine w_Mo_take_23 ⟨Mm.o, ?_⟩
    rw [hI_s, if_pos (by decide)]
    exact k1 q _ (FlR.ww R0 c (Or.inl rfl))
/-- a byte more -/
theorem m_wput {K : Hp → Prop} {x : Int32} (R0 : Wm0 n V S g0) (c : CoW n S g0 s g) (k2 : ¬ bfN s.1 < 120 → ∀ g', FlR g0 3 s.2.2.2.1 s.2.2.2.2 g' → K g') (k0 : bfN s.1 < 120 → ∀ g', CoW n S g0 (s.1 + 8, (s.2.1.1, upW s.2.1.2 (bfN s.1) (x &&& 255)), s.2.2) g' → hI g' 197 43 = hI g 197 43 → Mk g g' → K g') : Ca (d + 1) m_Mo_putByte [.ref 197, .int x] g (QV K) := by
  have R := R0.fr c.1
  have Mm := R.1.1.1
  obtain ⟨c1, c2, ⟨c3, c4⟩, ⟨c5, c6⟩, ⟨c7, c8⟩, c9, c10⟩ := id c
  refine w_Mo_putByte ⟨Mm.o, ?_⟩
  rw [c3]
  by_cases q : bfN s.1 < 120
  · rw [if_neg (fun z => by have := (iv_inj (a := bfN s.1) (b := 120) (by omega) (by omega)).mp z; omega)]
    refine w_Mo_wrong ?_
    rw [if_pos rfl, c2, if_neg (by decide), c3]
    have ax : ainr (iv (bfN s.1)) 121 = true := ainr_iv (by omega) (by omega)
    have cx : (iv (bfN s.1)).toNatClampNeg = bfN s.1 := iv_clamp (by omega)
    have e8 : bfN (s.1 + 8) = bfN s.1 + 1 := by unfold bfN; omega
    have k0 := k0 q (sI (sI g 227 (bfN s.1) (x &&& 255)) 197 42 (iv (bfN s.1 + 1))) ⟨(c1.trans MdF.r).trans (MdF.i (by omega)), by rw [hI_o (by omega), hI_ne (by decide)]; exact c2, ⟨by rw [hI_s]; show _ = iv (bfN (s.1 + 8)); rw [e8], by show bfN (s.1 + 8) ≤ 120; omega⟩, ⟨by rw [hI_o (by omega), hI_ne (by decide)]; exact c5, by rw [hI_o (by omega), hI_ne (by decide)]; exact c6⟩, ⟨by rw [hI_o (by omega), hI_ne (by decide)]; exact c7, c8⟩, fun i hi => by
        have hi : i < bfN (s.1 + 8) := hi
        rw [hI_ne (by decide)]
        show _ = upW s.2.1.2 (bfN s.1) (x &&& 255) i
        unfold upW
        by_cases e : i = bfN s.1
        · rw [if_pos e, e, hI_s]
        · rw [if_neg e, hI_o (by omega)]; exact c9 i (by omega), c10⟩ (by rw [hI_o (by omega), hI_ne (by decide)]) (Mk.r.trans (Mk.i (by decide)))
    have o2 : ∀ v, hI (sI g 227 (bfN s.1) v) 197 = hI g 197 := fun _ => hI_ne (by decide)
    simp only [hR_sI, hS_sI, Mm.o, Mm.r44, Mm.s227, true_and, ax, cx, o2, c3, forall_eq]
    rw [iv1, iv_add]
    exact ⟨by decide, k0⟩
  · rw [if_pos (show iv (bfN s.1) = 120 by rw [show bfN s.1 = 120 by omega]; rfl)]
    refine m_wrong3 R0 c ⟨Mm.o, ?_⟩
    rw [hI_s, if_pos (by decide)]
    exact k2 q _ (FlR.ww R0 c (Or.inr rfl))
end WRM
