/-! the Model's parts of reading: the tail of a sized unit -/
def TlP (d : Nat) (K : Hp → Prop) (k : Nat) (v : Int64) (h : Hp) : Prop := ((hS h 197).1 = 8 ∧ ((hS h (hR h 197 29)).1 = 21 ∧ (ainr (iv k) (hS h (hR h 197 29)).2 = true ∧ (if v < (hL h (hR h 197 29) (iv k).toNatClampNeg) then Ca d m_Mo_wrong [.ref 197, .int (1 : Int32)] h (QV (fun h47 => ((hS h47 197).1 = 8 ∧ ((hS h47 (hR h47 197 34)).1 = 21 ∧ (¬ (hR h47 197 34) = 1 ∧ (ainr (iv k) (hS h47 (hR h47 197 34)).2 = true ∧ (∀ h53 : Hp, h53 = sL h47 (hR h47 197 34) (iv k).toNatClampNeg v → Ca d m_Mo_give [.ref 197, .long v] h53 (QV (fun h54 => K h54))))))))) else ((hS h (hR h 197 30)).1 = 21 ∧ (ainr (iv k) (hS h (hR h 197 30)).2 = true ∧ (if (hL h (hR h 197 30) (iv k).toNatClampNeg) < v then Ca d m_Mo_wrong [.ref 197, .int (1 : Int32)] h (QV (fun h58 => ((hS h58 197).1 = 8 ∧ ((hS h58 (hR h58 197 34)).1 = 21 ∧ (¬ (hR h58 197 34) = 1 ∧ (ainr (iv k) (hS h58 (hR h58 197 34)).2 = true ∧ (∀ h64 : Hp, h64 = sL h58 (hR h58 197 34) (iv k).toNatClampNeg v → Ca d m_Mo_give [.ref 197, .long v] h64 (QV (fun h65 => K h65))))))))) else Ca d m_Mo_wrong [.ref 197, .int (0 : Int32)] h (QV (fun h67 => ((hS h67 197).1 = 8 ∧ ((hS h67 (hR h67 197 34)).1 = 21 ∧ (¬ (hR h67 197 34) = 1 ∧ (ainr (iv k) (hS h67 (hR h67 197 34)).2 = true ∧ (∀ h73 : Hp, h73 = sL h67 (hR h67 197 34) (iv k).toNatClampNeg v → Ca d m_Mo_give [.ref 197, .long v] h73 (QV (fun h74 => K h74))))))))))))))))
section RDT
variable {d L : Nat} {M : Nat → Int32} {S : Tb} {g0 g : Hp} {k : Nat} {s : Ps (List Int64)} {c p m : Int32}
theorem m_tailF {K : Hp → Prop} {v : Int64} (fl : FlR g0 c p m g) (hk : k < 90) (kk : ∀ g', FlR g0 c p m g' → Mk g g' → K g') : TlP (d + 1) K k v g := by
  obtain ⟨o, f, c0, Mm⟩ := fl.o
  have f0 : ¬ hI g 197 41 = 0 := fun z => by rw [z] at f; rw [← f] at c0; exact absurd c0 (by decide)
  have ax : ainr (iv k) 90 = true := ainr_iv (by omega) (by omega)
  have cx : (iv k).toNatClampNeg = k := iv_clamp (by omega)
  have inn : Ca (d + 1) m_Mo_give [.ref 197, .long v] (sL g 222 k v) (QV fun h => K h) := m_giveF (fl.mono (MdF.l (Or.inl rfl)) fun _ _ => rfl) (kk _ (fl.mono (MdF.l (Or.inl rfl)) fun _ _ => rfl) ⟨⟨rfl, rfl, rfl, hL_ne (by decide)⟩, rfl⟩)
  have w1 : Ca (d + 1) m_Mo_wrong [.ref 197, .int 1] g (QV fun h47 => (hS h47 197).1 = 8 ∧ (hS h47 (hR h47 197 34)).1 = 21 ∧ ¬ hR h47 197 34 = 1 ∧ ainr (iv k) (hS h47 (hR h47 197 34)).2 = true ∧ ∀ h53 : Hp, h53 = sL h47 (hR h47 197 34) (iv k).toNatClampNeg v → Ca (d + 1) m_Mo_give [.ref 197, .long v] h53 (QV fun h54 => K h54)) := by
    refine w_Mo_wrong ?_
    rw [if_neg (by decide)]
    refine ⟨o, ?_⟩
    rw [if_neg f0]
    simp only [hR_sI, hS_sI, Mm.o, Mm.r34, Mm.s222, true_and, ax, cx, forall_eq]
    exact ⟨by decide, inn⟩
  have w0 : Ca (d + 1) m_Mo_wrong [.ref 197, .int 0] g (QV fun h47 => (hS h47 197).1 = 8 ∧ (hS h47 (hR h47 197 34)).1 = 21 ∧ ¬ hR h47 197 34 = 1 ∧ ainr (iv k) (hS h47 (hR h47 197 34)).2 = true ∧ ∀ h53 : Hp, h53 = sL h47 (hR h47 197 34) (iv k).toNatClampNeg v → Ca (d + 1) m_Mo_give [.ref 197, .long v] h53 (QV fun h54 => K h54)) := by
    refine w_Mo_wrong ?_
    rw [if_pos rfl]
    simp only [hR_sI, hS_sI, Mm.o, Mm.r34, Mm.s222, true_and, ax, cx, forall_eq]
    exact ⟨by decide, inn⟩
  unfold TlP
  rw [Mm.r29, Mm.s217, Mm.r30, Mm.s218]
  refine ⟨o, rfl, ax, ?_⟩
  split
  · exact w1
  · refine ⟨rfl, ax, ?_⟩
    split
    · exact w1
    · exact w0
theorem m_tail {K : Hp → Prop} {v : Int64} {B : Nat} (R0 : Rm0 L M S g0) (hk : k < S.1) (hz : sz (tG S k 0) = true) (c : Cor L S g0 (B, s.2.1, s.2.2.1, iv (s.1 / 8), tG S k 7) g)
    (kF : (kpP S k v B s.2.1).1 = 0 → ∀ g', Cor L S g0 (mkU S k s (kpP S k v B s.2.1)).2 g' → hI g' 197 43 = hI g 197 43 → Mk g g' → K g')
    (kE : ¬ (kpP S k v B s.2.1).1 = 0 → ∀ g', FlR g0 ((kpP S k v B s.2.1).1 + 1) (iv (s.1 / 8)) (tG S k 7) g' → K g') : TlP (d + 1) K k v g := by
  have R := R0.fr c.1
  have Mm := R.1.1.1
  have u90 := R.1.1.2.2.1
  have o := Mm.o
  have f0 := c.2.1
  have ax : ainr (iv k) 90 = true := ainr_iv (by omega) (by omega)
  have cx : (iv k).toNatClampNeg = k := iv_clamp (by omega)
  obtain ⟨lo, hi⟩ := R.1.2.1 k hk hz
  unfold kpP at kF kE
  have w1 : (v < loT S k ∨ hiT S k < v) → Ca (d + 1) m_Mo_wrong [.ref 197, .int 1] g (QV fun h47 => (hS h47 197).1 = 8 ∧ (hS h47 (hR h47 197 34)).1 = 21 ∧ ¬ hR h47 197 34 = 1 ∧ ainr (iv k) (hS h47 (hR h47 197 34)).2 = true ∧ ∀ h53 : Hp, h53 = sL h47 (hR h47 197 34) (iv k).toNatClampNeg v → Ca (d + 1) m_Mo_give [.ref 197, .long v] h53 (QV fun h54 => K h54)) := by
    intro q
    rw [if_pos (Or.inl q)] at kE
    have kE := kE (show ¬ (2 : Int32) = 0 by decide)
    refine w_Mo_wrong ?_
    rw [if_neg (by decide)]
    refine ⟨o, ?_⟩
    rw [if_pos f0]
    rintro _ rfl
    have fl := FlR.wr R0 c (x := 3) (Or.inr rfl)
    have fl2 := fl.mono (MdF.l (a := 222) (j := k) (v := v) (Or.inl rfl)) fun _ _ => rfl
    simp only [hR_sI, hS_sI, Mm.o, Mm.r34, Mm.s222, true_and, ax, cx, forall_eq]
    exact ⟨by decide, m_giveF fl2 (kE _ fl2)⟩
  have w0 : ¬ (v < loT S k ∨ hiT S k < v) → Ca (d + 1) m_Mo_wrong [.ref 197, .int 0] g (QV fun h47 => (hS h47 197).1 = 8 ∧ (hS h47 (hR h47 197 34)).1 = 21 ∧ ¬ hR h47 197 34 = 1 ∧ ainr (iv k) (hS h47 (hR h47 197 34)).2 = true ∧ ∀ h53 : Hp, h53 = sL h47 (hR h47 197 34) (iv k).toNatClampNeg v → Ca (d + 1) m_Mo_give [.ref 197, .long v] h53 (QV fun h54 => K h54)) := by
    intro q
    refine w_Mo_wrong ?_
    rw [if_pos rfl]
    simp only [hR_sI, hS_sI, Mm.o, Mm.r34, Mm.s222, true_and, ax, cx, forall_eq]
    refine ⟨by decide, ?_⟩
    -- with the value known
    have c2 : Cor L S g0 (B, s.2.1, (fun q => if q = k ∧ sz (tG S k 0) = true then some v else s.2.2.1 q), iv (s.1 / 8), tG S k 7) (sL g 222 k v) := by
      obtain ⟨c1, c2, ⟨c3, c4⟩, ⟨c5, c6⟩, ⟨c7, c8, c9⟩, c10⟩ := c
      refine ⟨c1.trans (MdF.l (Or.inl rfl)), c2, ⟨c3, c4⟩, ⟨c5, c6⟩, ⟨c7, c8, fun i hi => by rw [hL_o (by omega)]; exact c9 i hi⟩, fun q w hq => ?_⟩
      have hq : (if q = k ∧ sz (tG S k 0) = true then some v else s.2.2.1 q) = some w := hq
      by_cases e : q = k
      · subst e
        rw [if_pos ⟨rfl, hz⟩] at hq
        rw [hL_s]
        exact ⟨⟨hk, hz⟩, Option.some.inj hq⟩
      · rw [if_neg (fun y => e y.1)] at hq
        rw [hL_o (by omega)]
        exact c10 q w hq
    refine m_give R0 c2 (fun z => ?_) fun z => ?_
    · have z : s.2.1.length < 160 := z
      rw [if_neg (fun y => y.elim q fun y => y z)] at kF
      obtain ⟨c3, b3⟩ := c2.give (v := v) z
      refine kF rfl _ c3 b3 ⟨⟨?_, ?_, ?_, ?_⟩, ?_⟩
      · rw [hI_ne (by decide), hI_sL, hI_sL]
      · rw [hI_ne (by decide), hI_sL, hI_sL]
      · rw [hI_ne (by decide), hI_sL, hI_sL]
      · rw [hL_sI, hL_ne (by decide), hL_ne (by decide)]
      · rw [hI_o (by decide), hI_sL, hI_sL]
    · have z : ¬ s.2.1.length < 160 := z
      rw [if_pos (Or.inr z)] at kE
      exact kE (show ¬ (2 : Int32) = 0 by decide) _ (FlR.wr R0 c2 (x := 3) (Or.inr rfl))
  unfold TlP
  rw [Mm.r29, Mm.s217, Mm.r30, Mm.s218, cx, lo, hi]
  refine ⟨o, rfl, ax, ?_⟩
  rw [cx] at w1 w0
  by_cases q1 : v < loT S k
  · rw [if_pos q1]; exact w1 (Or.inl q1)
  · rw [if_neg q1]
    refine ⟨rfl, ax, ?_⟩
    by_cases q2 : hiT S k < v
    · rw [if_pos q2]; exact w1 (Or.inr q2)
    · rw [if_neg q2]; exact w0 (fun y => y.elim q1 q2)
end RDT
