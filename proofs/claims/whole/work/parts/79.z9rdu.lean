/-! the Model's parts of reading: a byte more, a value kept, the name around -/
section RDU
variable {d L : Nat} {M : Nat → Int32} {S : Tb} {g0 g : Hp} {k : Nat} {s : Ps (List Int64)} {c p m : Int32}
theorem FlR.o (fl : FlR g0 c p m g) : (hS g 197).1 = 8 ∧ hI g 197 41 = c ∧ 0 < c ∧ ShM g := fl_h.2 _ _ _ _ fl
theorem FlR.mono {g' : Hp} (fl : FlR g0 c p m g) (f : MdF g g') (e : ∀ j, (j = 41 ∨ j = 47 ∨ j = 48) → hI g' 197 j = hI g 197 j) : FlR g0 c p m g' := ⟨⟨fl.1.1.trans f, ⟨by rw [e 41 (by decide)]; exact fl.1.2.1.1, fl.1.2.1.2⟩, by rw [e 47 (by decide)]; exact fl.1.2.2.1, by rw [e 48 (by decide)]; exact fl.1.2.2.2⟩, fl.2⟩
theorem m_nextF {K : Int32 → Hp → Prop} (fl : FlR g0 c p m g) (k : K 0 g) : Ca d m_Mo_nextByte [.ref 197] g (QI K) := by
  obtain ⟨o, f, c0, -⟩ := fl.o
  have f0 : ¬ hI g 197 41 = 0 := fun z => by rw [z] at f; rw [← f] at c0; exact absurd c0 (by decide)
  have q : Wp d m_Mo_nextByte 23 [some (.ref 197)] [] g (QI K) := w_Mo_nextByte_23 ⟨o, by rw [f, if_pos c0]; exact k⟩
  refine w_Mo_nextByte ⟨o, ?_⟩
  by_cases z : hI g 197 42 < hI g 197 7
  · rw [if_pos z]; exact q
  · rw [if_neg z, if_neg f0]; exact q
theorem m_nextByte {K : Int32 → Hp → Prop} (R0 : Rm0 L M S g0) (c : Cor L S g0 s g) (k1 : bfN s.1 < L → K (M (bfN s.1)) (sI g 197 42 (iv (bfN s.1 + 1)))) (k2 : L ≤ bfN s.1 → K 0 (sI g 197 41 2)) : Ca d m_Mo_nextByte [.ref 197] g (QI K) := by
  have R := R0.fr c.1
  have Mm := R.1.1.1
  have l120 := R.2.1.2.1
  have hB := c.2.2.1.2
  have bl : bfN s.1 ≤ L := by unfold bfN; omega
  refine w_Mo_nextByte ⟨Mm.o, ?_⟩
  rw [c.2.2.1.1, R.2.1.1]
  by_cases z : bfN s.1 < L
  · rw [if_pos ((iv_lt (by omega) (by omega)).mpr z)]
    refine w_Mo_nextByte_23 ⟨Mm.o, ?_⟩
    rw [c.2.1, if_neg (by decide), c.2.2.1.1, iv1, iv_add]
    rintro _ rfl
    have e : iv (bfN s.1 + 1) - 1 = iv (bfN s.1) := iv_dec
    have k1 := k1 z
    rw [← R.2.1.2.2.1 _ z] at k1
    have ax : ainr (iv (bfN s.1)) 121 = true := ainr_iv (by omega) (by omega)
    have cx : (iv (bfN s.1)).toNatClampNeg = bfN s.1 := iv_clamp (by omega)
    have o2 : ∀ v, hI (sI g 197 42 v) 200 = hI g 200 := fun _ => hI_ne (by decide)
    simp only [hR_sI, hS_sI, Mm.o, Mm.r6, Mm.s200, hI_s, true_and, show iv 1 = (1 : Int32) from rfl, e, ax, cx, o2]
    exact k1
  · rw [if_neg (fun y => z ((iv_lt (by omega) (by omega)).mp y)), if_pos c.2.1]
    rintro _ rfl
    refine w_Mo_nextByte_23 ⟨Mm.o, ?_⟩
    rw [hI_s, if_pos (by decide)]
    exact k2 (by omega)
theorem Cor.adv (c : Cor L S g0 s g) (al : s.1 % 8 = 0) (h : bfN s.1 < L) : Cor L S g0 (s.1 + 8, s.2) (sI g 197 42 (iv (bfN s.1 + 1))) ∧ hI (sI g 197 42 (iv (bfN s.1 + 1))) 197 43 = hI g 197 43 := by
  obtain ⟨c1, c2, ⟨c3, c4⟩, ⟨c5, c6⟩, ⟨c7, c8, c9⟩, c10⟩ := c
  have e : ∀ i, ¬ i = 42 → hI (sI g 197 42 (iv (bfN s.1 + 1))) 197 i = hI g 197 i := fun i hi => hI_o (by omega)
  refine ⟨⟨c1.trans (MdF.i (by omega)), by rw [e 41 (by omega)]; exact c2, ⟨?_, ?_⟩, ⟨by rw [e 47 (by omega)]; exact c5, by rw [e 48 (by omega)]; exact c6⟩, ⟨by rw [e 46 (by omega)]; exact c7, c8, c9⟩, c10⟩, e 43 (by omega)⟩
  · rw [hI_s]
    show iv (bfN s.1 + 1) = iv (bfN (s.1 + 8))
    congr 1; unfold bfN; omega
  · show s.1 + 8 ≤ 8 * L
    unfold bfN at h; omega
theorem m_giveF {K : Hp → Prop} {v : Int64} (fl : FlR g0 c p m g) (k : K g) : Ca (d + 1) m_Mo_give [.ref 197, .long v] g (QV K) := by
  obtain ⟨o, f, c0, -⟩ := fl.o
  have f0 : ¬ hI g 197 41 = 0 := fun z => by rw [z] at f; rw [← f] at c0; exact absurd c0 (by decide)
  refine w_Mo_give ⟨o, ?_⟩
  by_cases z : hI g 197 46 = 160
  · rw [if_pos z]
    refine w_Mo_wrong ?_
    rw [if_neg (by decide)]
    refine ⟨o, ?_⟩
    rw [if_neg f0]
    exact ⟨o, by rw [f, if_pos c0]; exact k⟩
  · rw [if_neg z]
    refine w_Mo_wrong ?_
    rw [if_pos rfl]
    exact ⟨o, by rw [f, if_pos c0]; exact k⟩
theorem m_give {K : Hp → Prop} {v : Int64} (R0 : Rm0 L M S g0) (c : Cor L S g0 s g) (k1 : s.2.1.length < 160 → K (sI (sL g 228 s.2.1.length v) 197 46 (iv (s.2.1.length + 1)))) (k2 : ¬ s.2.1.length < 160 → K (sI g 197 41 3)) : Ca (d + 1) m_Mo_give [.ref 197, .long v] g (QV K) := by
  have R := R0.fr c.1
  have Mm := R.1.1.1
  have lw := c.2.2.2.2.1.2.1
  have ew := c.2.2.2.2.1.1
  have z160 : hI g 197 46 = 160 ↔ s.2.1.length = 160 := by rw [ew]; exact iv_inj (b := 160) (by omega) (by omega)
  refine w_Mo_give ⟨Mm.o, ?_⟩
  by_cases z : s.2.1.length < 160
  · rw [if_neg (fun y => by have := z160.mp y; omega)]
    refine w_Mo_wrong ?_
    rw [if_pos rfl, c.2.1, if_neg (by decide)]
    have ax : ainr (iv s.2.1.length) 161 = true := ainr_iv (by omega) (by omega)
    have cx : (iv s.2.1.length).toNatClampNeg = s.2.1.length := iv_clamp (by omega)
    simp only [hR_sI, hS_sI, Mm.o, Mm.r45, Mm.s228, true_and, ew, ax, cx, forall_eq, hI_sL, iv1, iv_add]
    exact ⟨by decide, k1 z⟩
  · rw [if_pos (z160.mpr (by omega))]
    refine w_Mo_wrong ?_
    rw [if_neg (by decide)]
    refine ⟨Mm.o, ?_⟩
    rw [if_pos c.2.1]
    rintro _ rfl
    refine ⟨Mm.o, ?_⟩
    rw [hI_s, if_pos (by decide)]
    exact k2 z
theorem Cor.give (c : Cor L S g0 s g) {v : Int64} (z : s.2.1.length < 160) : Cor L S g0 (s.1, s.2.1 ++ [v], s.2.2) (sI (sL g 228 s.2.1.length v) 197 46 (iv (s.2.1.length + 1))) ∧ hI (sI (sL g 228 s.2.1.length v) 197 46 (iv (s.2.1.length + 1))) 197 43 = hI g 197 43 := by
  obtain ⟨c1, c2, ⟨c3, c4⟩, ⟨c5, c6⟩, ⟨c7, c8, c9⟩, c10⟩ := c
  have e : ∀ i, ¬ i = 46 → hI (sI (sL g 228 s.2.1.length v) 197 46 (iv (s.2.1.length + 1))) 197 i = hI g 197 i := fun i hi => by rw [hI_o (by omega), hI_sL]
  refine ⟨⟨(c1.trans (MdF.l (by omega))).trans (MdF.i (by omega)), by rw [e 41 (by omega)]; exact c2, ⟨by rw [e 42 (by omega)]; exact c3, c4⟩, ⟨by rw [e 47 (by omega)]; exact c5, by rw [e 48 (by omega)]; exact c6⟩, ⟨?_, ?_, fun i hi => ?_⟩, fun q w hq => ?_⟩, e 43 (by omega)⟩
  · rw [hI_s]
    show iv (s.2.1.length + 1) = iv (s.2.1 ++ [v]).length
    rw [List.length_append]; rfl
  · show (s.2.1 ++ [v]).length ≤ 160
    rw [List.length_append]; exact z
  · have hi : i < (s.2.1 ++ [v]).length := hi
    rw [List.length_append] at hi
    have hi : i < s.2.1.length + 1 := hi
    rw [hL_sI]
    show _ = (s.2.1 ++ [v]).getD i 0
    by_cases ei : i = s.2.1.length
    · rw [ei, hL_s, getD_end]
    · rw [hL_o (by omega), getD_app (by omega)]
      exact c9 i (by omega)
  · rw [hL_sI, hL_o (by omega)]
    exact c10 q w hq
theorem m_nameF {K : Int32 → Hp → Prop} (T : TabM g S) (W : TW S) : ∀ (f x : Nat) (y : Option Value), x < f → x < S.1 → K (tG S x 7) g → Wp d m_Mo_nameAround 2 [some (.ref 197), y, some (.int (iv x))] [] g (QI K)
  | 0, x, y, h, _, _ => absurd h (Nat.not_lt_zero _)
  | f + 1, x, y, h, hx, kk => by
    have Mm := T.1
    have u90 := T.2.2.1
    have ax : ainr (iv x) 90 = true := ainr_iv (by omega) (by omega)
    have cx : (iv x).toNatClampNeg = x := iv_clamp (by omega)
    have nx : ¬ iv x < 0 := iv_neg (by omega)
    have f5 : hI g 207 x = tG S x 5 := T.f (j := 5) (by decide) hx
    obtain ⟨g1, g2⟩ := (W.2.2.1 x hx).2
    refine w_Mo_nameAround_2 ?_
    rw [if_neg nx]
    simp only [hR_sI, hS_sI, Mm.o, Mm.r17, Mm.s207, Mm.r19, Mm.s209, true_and, ax, cx, f5, if_neg nx, forall_eq, T.pr hx]
    cases e : S.2.2 x with
    | zero =>
      obtain ⟨a, b⟩ := g1 e
      rw [a, if_pos (by decide)]
      refine w_Mo_nameAround_2 ?_
      rw [if_pos (by show (-1 : Int32) < 0; decide), if_pos (by show (-1 : Int32) < 0; decide)]
      rw [b] at kk; exact kk
    | succ q =>
      obtain ⟨a1, a2, a3, a4, a5⟩ := g2 q e
      by_cases c : tG S q 0 = 123
      · obtain ⟨b1, b2⟩ := a3 c
        rw [if_neg b2, b1]; exact kk
      · obtain ⟨b1, b2⟩ := a4 c
        rw [b1, if_pos (by decide)]
        rw [b2] at kk
        exact m_nameF T W f q _ (by omega) (by omega) kk
end RDU
