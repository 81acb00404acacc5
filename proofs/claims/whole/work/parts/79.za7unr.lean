/-! the Model reads a unit -/
section RDX
variable {d L : Nat} {M : Nat → Int32} {S : Tb} {g0 g : Hp} {k : Nat} {s : Ps (List Int64)} {c p m x1 : Int32}
theorem wl_le {q left : Nat} : ∀ f j, j ≤ left → wlF M q left f j ≤ left ∧ wlF M q left f j ≤ j + f
  | 0, j, h => ⟨h, Nat.le_refl _⟩
  | f + 1, j, h => by
    unfold wlF
    split
    · split
      · exact ⟨h, by omega⟩
      · have := wl_le (q := q) (left := left) f (j + 1) (by omega)
        exact ⟨this.1, by omega⟩
    · exact ⟨h, by omega⟩
theorem m_w45 {K : Hp → Prop} {n : Nat} {y3 : Option Value} (R0 : Rm0 L M S g0) (c2 : tG S k 0 = 122) (al : s.1 % 8 = 0) (cr : Cor L S g0 (stU S k s) g) (hb : hI g 197 43 = btI s.1) (en : n = wlF M (bfN s.1) (L - bfN s.1) 21 0)
    (kF : (URd M L S k s.1 s.2.1).1 = 0 → ∀ g', RxR L S g0 (mkU S k s (URd M L S k s.1 s.2.1)).2 g' → Mk g g' → K g')
    (kE : ¬ (URd M L S k s.1 s.2.1).1 = 0 → ∀ g', FlR g0 ((URd M L S k s.1 s.2.1).1 + 1) (iv (s.1 / 8)) (tG S k 7) g' → K g') : Wp (d + 5) m_Mo_words 45 [some (.ref 197), some (.int 1), some (.int (iv n)), y3] [] g (QV K) := by
  have R := R0.fr cr.1
  have Mm := R.1.1.1
  have l120 := R.2.1.2.1
  have hB : s.1 ≤ 8 * L := cr.2.2.1.2
  have bl : bfN s.1 ≤ L := by unfold bfN; omega
  have nl : n ≤ L - bfN s.1 := by rw [en]; exact (wl_le 21 0 (Nat.zero_le _)).1
  unfold URd at kF kE
  rw [if_neg (by rw [c2]; decide), if_neg (by rw [c2]; decide), if_pos c2, ← en] at kF kE
  refine w_Mo_words_45 ?_
  by_cases q : 20 < n
  · rw [if_pos (show (20 : Int32) < iv n from (iv_lt (a := 20) (by omega) (by omega)).mpr q)]
    rw [if_pos q] at kE
    have fl := FlR.wr R0 cr (x := 3) (Or.inr rfl)
    refine ⟨Mm.o, w_Mo_wrong ?_⟩
    rw [if_neg (by decide)]
    refine ⟨Mm.o, ?_⟩
    rw [if_pos cr.2.1]
    rintro _ rfl
    refine ⟨Mm.o, ?_⟩
    rw [hI_s, if_neg (by decide)]
    exact m_w98F (by omega) fl (kE (show ¬ (2 : Int32) = 0 by decide))
  · rw [if_neg (show ¬ (20 : Int32) < iv n from fun z => q ((iv_lt (a := 20) (by omega) (by omega)).mp z))]
    rw [if_neg q] at kF kE
    refine ⟨Mm.o, w_Mo_wrong ?_⟩
    rw [if_pos rfl]
    refine ⟨Mm.o, ?_⟩
    have e42 : hI g 197 42 = iv (bfN s.1) := cr.2.2.1.1
    rw [if_pos cr.2.1, e42, iv_add, R.2.1.1]
    by_cases q2 : n = L - bfN s.1
    · rw [if_neg (fun z => by have := (iv_lt (by omega) (by omega)).mp z; omega)]
      rw [if_pos q2] at kE
      rintro _ rfl
      exact m_w98F (by omega) (FlR.wr R0 cr (x := 2) (Or.inl rfl)) (kE (show ¬ (1 : Int32) = 0 by decide))
    · rw [if_pos ((iv_lt (by omega) (by omega)).mpr (by omega))]
      rw [if_neg q2] at kF kE
      exact m_w98 R0 (by rw [c2]; decide) al (by omega) (Or.inr ⟨rfl, rfl, by omega⟩) cr hb kF kE
theorem m_w6 {K : Hp → Prop} {y3 : Option Value} (R0 : Rm0 L M S g0) (c2 : tG S k 0 = 122) (al : s.1 % 8 = 0) (cr : Cor L S g0 (stU S k s) g) (hb : hI g 197 43 = btI s.1)
    (kF : (URd M L S k s.1 s.2.1).1 = 0 → ∀ g', RxR L S g0 (mkU S k s (URd M L S k s.1 s.2.1)).2 g' → Mk g g' → K g')
    (kE : ¬ (URd M L S k s.1 s.2.1).1 = 0 → ∀ g', FlR g0 ((URd M L S k s.1 s.2.1).1 + 1) (iv (s.1 / 8)) (tG S k 7) g' → K g') : ∀ (f j : Nat), j + f = 21 → j ≤ L - bfN s.1 → wlF M (bfN s.1) (L - bfN s.1) 21 0 = wlF M (bfN s.1) (L - bfN s.1) f j → Wp (d + 5) m_Mo_words 6 [some (.ref 197), some (.int 1), some (.int (iv j)), y3] [] g (QV K)
  | f, j, e, hj, ew => by
    have R := R0.fr cr.1
    have Mm := R.1.1.1
    have l120 := R.2.1.2.1
    have hB : s.1 ≤ 8 * L := cr.2.2.1.2
    have bl : bfN s.1 ≤ L := by unfold bfN; omega
    have e42 : hI g 197 42 = iv (bfN s.1) := cr.2.2.1.1
    have p45 : j = wlF M (bfN s.1) (L - bfN s.1) 21 0 → Wp (d + 5) m_Mo_words 45 [some (.ref 197), some (.int 1), some (.int (iv j)), y3] [] g (QV K) := fun en => m_w45 R0 c2 al cr hb en kF kE
    refine w_Mo_words_6 ⟨Mm.o, ?_⟩
    rw [e42, iv_add, R.2.1.1]
    by_cases q : j < L - bfN s.1
    · rw [if_pos ((iv_lt (by omega) (by omega)).mpr (by omega)), Mm.r6, Mm.s200, iv_clamp (by omega), R.2.1.2.2.1 _ (by omega)]
      refine ⟨rfl, ainr_iv (by omega) (by omega), ?_⟩
      cases f with
      | zero =>
        have p := p45 ew.symm
        rw [if_neg (show ¬ iv j < 21 from fun z => by have := (iv_lt (a := j) (b := 21) (by omega) (by omega)).mp z; omega)]
        split
        · exact p
        · exact p
      | succ f =>
        unfold wlF at ew
        rw [if_pos q] at ew
        by_cases z : M (bfN s.1 + j) = 0
        · rw [if_pos z] at ew ⊢
          exact p45 ew.symm
        · rw [if_neg z] at ew ⊢
          rw [if_pos (show iv j < 21 from (iv_lt (a := j) (b := 21) (by omega) (by omega)).mpr (by omega)), iv1, iv_add]
          rintro _ rfl
          exact m_w6 R0 c2 al cr hb kF kE f (j + 1) (by omega) (by omega) ew
    · rw [if_neg (fun z => q (by have := (iv_lt (by omega) (by omega)).mp z; omega))]
      refine p45 ?_
      rw [ew]
      cases f with
      | zero => rfl
      | succ f => unfold wlF; rw [if_neg q]
/-- **the Model reads a unit as the pure pass does** -/
theorem rd_unm (R0 : Rm0 L M S g0) (T : TW S) : ∀ (d k : Nat) (s : Ps (List Int64)) (g : Hp) (K : Hp → Prop) (y3 : Option Value), k < S.1 → (sz (tG S k 0) = true ∨ sm (tG S k 0) = true) → RxR L S g0 s g → (¬ tG S k 0 = 112 → s.1 % 8 = 0) → ((pU S (URd M L S) k s).1 = 0 → ∀ g', RxR L S g0 (pU S (URd M L S) k s).2 g' → Mk g g' → K g') → (¬ (pU S (URd M L S) k s).1 = 0 → ∀ g', FlR g0 ((pU S (URd M L S) k s).1 + 1) (pU S (URd M L S) k s).2.2.2.2.1 (pU S (URd M L S) k s).2.2.2.2.2 g' → K g') → Wp (d + 13) m_Mo_unit 52 [some (.ref 197), some (.int (iv k)), some (.int (tG S k 0)), y3] [] g (QV K) := by
  intro d k s g K y3 hk hu rx al kF kE
  obtain ⟨cr, hb⟩ := rx
  have R := R0.fr cr.1
  have Mm := R.1.1.1
  have u90 := R.1.1.2.2.1
  have l120 := R.2.1.2.1
  have hB := cr.2.2.1.2
  have hb : hI g 197 43 = btI s.1 := hb
  -- behind spot and name
  have body : Ca (d + 12) m_Mo_nameAround [.ref 197, .int (iv k)] (sI g 197 47 (iv (s.1 / 8))) (QI fun v45 h46 => (hS h46 197).1 = 8 ∧ ∀ h49 : Hp, h49 = sI h46 197 48 v45 → Ca (d + 12) m_Mo_sized [.ref 197, .int (tG S k 0)] h49 (QI fun v50 h51 => if v50 = 0 then (if tG S k 0 = 102 then ((hS h51 197).1 = 8 ∧ Ca (d + 12) m_Mo_floating [.ref 197, .int (iv k)] h51 (QV K)) else (if tG S k 0 = 100 then ((hS h51 197).1 = 8 ∧ Ca (d + 12) m_Mo_floating [.ref 197, .int (iv k)] h51 (QV K)) else ((hS h51 197).1 = 8 ∧ (if hI h51 197 40 = 0 then (if tG S k 0 = 122 then Ca (d + 12) m_Mo_words [.ref 197, .int 1] h51 (QV K) else Ca (d + 12) m_Mo_words [.ref 197, .int 0] h51 (QV K)) else (if tG S k 0 = 122 then Ca (d + 12) m_Mo_writeWords [.ref 197, .int 1] h51 (QV K) else Ca (d + 12) m_Mo_writeWords [.ref 197, .int 0] h51 (QV K)))))) else ((hS h51 197).1 = 8 ∧ Ca (d + 12) m_Mo_sizedUnit [.ref 197, .int (iv k)] h51 (QV K)))) := by
    have f1 : MdF g (sI g 197 47 (iv (s.1 / 8))) := MdF.i (by omega)
    refine w_Mo_nameAround (m_nameF (f1.tab R.1.1) T (k + 1) k _ (by omega) hk ?_)
    refine ⟨Mm.o, ?_⟩
    rintro _ rfl
    have cu : Cor L S g0 (stU S k s) (sI (sI g 197 47 (iv (s.1 / 8))) 197 48 (tG S k 7)) := by
      obtain ⟨c1, c2, ⟨c3, c4⟩, ⟨c5, c6⟩, ⟨c7, c8, c9⟩, c10⟩ := cr
      have e : ∀ i, ¬ i = 47 → ¬ i = 48 → hI (sI (sI g 197 47 (iv (s.1 / 8))) 197 48 (tG S k 7)) 197 i = hI g 197 i := fun i h1 h2 => by rw [hI_o (by omega), hI_o (by omega)]
      exact ⟨(c1.trans f1).trans (MdF.i (by omega)), by rw [e 41 (by omega) (by omega)]; exact c2, ⟨by rw [e 42 (by omega) (by omega)]; exact c3, c4⟩, ⟨by rw [hI_o (by omega), hI_s]; rfl, hI_s⟩, ⟨by rw [e 46 (by omega) (by omega)]; exact c7, c8, c9⟩, c10⟩
    have bu : hI (sI (sI g 197 47 (iv (s.1 / 8))) 197 48 (tG S k 7)) 197 43 = btI s.1 := by rw [hI_o (by omega), hI_o (by omega)]; exact hb
    have mu : Mk g (sI (sI g 197 47 (iv (s.1 / 8))) 197 48 (tG S k 7)) := (Mk.i (by decide)).trans (Mk.i (by decide))
    have kF' : (URd M L S k s.1 s.2.1).1 = 0 → ∀ g', RxR L S g0 (mkU S k s (URd M L S k s.1 s.2.1)).2 g' → Mk (sI (sI g 197 47 (iv (s.1 / 8))) 197 48 (tG S k 7)) g' → K g' := fun z g' r hmk => kF z g' r (mu.trans hmk)
    have kE' : ¬ (URd M L S k s.1 s.2.1).1 = 0 → ∀ g', FlR g0 ((URd M L S k s.1 s.2.1).1 + 1) (iv (s.1 / 8)) (tG S k 7) g' → K g' := kE
    have Ru := R0.fr cu.1
    have Mu := Ru.1.1.1
    refine w_Mo_sized ?_
    have szd : sz (tG S k 0) = true → (hS (sI (sI g 197 47 (iv (s.1 / 8))) 197 48 (tG S k 7)) 197).1 = 8 ∧ Ca (d + 12) m_Mo_sizedUnit [.ref 197, .int (iv k)] (sI (sI g 197 47 (iv (s.1 / 8))) 197 48 (tG S k 7)) (QV K) := fun hz => ⟨Mm.o, m_sizedR R0 T hk hz al cu bu kF' kE'⟩
    by_cases a1 : tG S k 0 = 117
    · rw [if_pos a1, if_neg (by decide)]; exact szd (by rw [a1]; rfl)
    rw [if_neg a1]
    by_cases a2 : tG S k 0 = 118
    · rw [if_pos a2, if_neg (by decide)]; exact szd (by rw [a2]; rfl)
    rw [if_neg a2]
    by_cases a3 : tG S k 0 = 115
    · rw [if_pos a3, if_neg (by decide)]; exact szd (by rw [a3]; rfl)
    rw [if_neg a3]
    by_cases a4 : tG S k 0 = 112
    · rw [if_pos a4, if_neg (by decide)]; exact szd (by rw [a4]; rfl)
    rw [if_neg a4, if_pos rfl]
    have al := al a4
    have ns : ¬ sz (tG S k 0) = true := fun z => by
      unfold sz at z
      rw [decide_eq_false a1, decide_eq_false a2, decide_eq_false a3, decide_eq_false a4] at z; cases z
    have hw : R0 = R0 := rfl
    have cx : (iv k).toNatClampNeg = k := iv_clamp (by omega)
    have ax : ainr (iv k) 90 = true := ainr_iv (by omega) (by omega)
    have ku : hI (sI (sI g 197 47 (iv (s.1 / 8))) 197 48 (tG S k 7)) 202 (iv k).toNatClampNeg = tG S k 0 := by rw [cx]; exact Ru.1.1.kd (by omega)
    have flt : ∀ w, (w = 4 ∧ tG S k 0 = 102) ∨ (w = 8 ∧ tG S k 0 = 100) → ∀ y1, Wp (d + 7 + 5) m_Mo_floating 86 [some (.ref 197), y1, some (.int (iv w)), some (.long 0), none, some (.int (iv 0))] [] (sI (sI g 197 47 (iv (s.1 / 8))) 197 48 (tG S k 7)) (QV K) := by
      intro w hw y1
      have ew : wdN S k = w := by
        unfold wdN wdT
        rcases hw with ⟨rfl, h⟩ | ⟨rfl, h⟩
        · rw [if_pos h]; rfl
        · rw [if_neg (by rw [h]; decide), if_pos h]; rfl
      have eU : URd M L S k s.1 s.2.1 = if L < bfN s.1 + w then (1, s.1, s.2.1, 0) else kpP S k (sgnV (tG S k 0) w (numV M (bfN s.1) w false w)) (s.1 + 8 * w) s.2.1 := by
        unfold URd
        rw [if_neg a4, if_neg (fun z => by rcases hw with ⟨-, h⟩ | ⟨-, h⟩ <;> rw [h] at z <;> exact absurd z (by decide)), if_neg (fun z => by rcases hw with ⟨-, h⟩ | ⟨-, h⟩ <;> rw [h] at z <;> exact absurd z (by decide)), ew, show decide (tG S k 0 = 118) = false from decide_eq_false a2]
      refine m_flt86 (d := d + 7) R0 ns hw al (fun v le ev z g' r hmk => ?_) (fun v le ev z g' fl => ?_) (fun lt g' fl => ?_) w 0 _ (by omega) cu bu (Mk.refl _)
      · have e := eU
        rw [if_neg (by unfold bfN; omega), ← ev] at e
        rw [e] at kF'
        exact kF' z g' r hmk
      · have e := eU
        rw [if_neg (by unfold bfN; omega), ← ev] at e
        rw [e] at kE'
        exact kE' z g' fl
      · have e := eU
        rw [if_pos (by unfold bfN; omega)] at e
        rw [e] at kE'
        exact kE' (show ¬ (1 : Int32) = 0 by decide) g' fl
    have fl0 : (tG S k 0 = 102 ∨ tG S k 0 = 100) → Ca (d + 12) m_Mo_floating [.ref 197, .int (iv k)] (sI (sI g 197 47 (iv (s.1 / 8))) 197 48 (tG S k 7)) (QV K) := by
      intro h
      refine w_Mo_floating ⟨Mm.o, ?_⟩
      rw [Mu.r12, Mu.s202, ku]
      refine ⟨rfl, ax, ?_⟩
      by_cases b1 : tG S k 0 = 102
      · rw [if_pos b1, if_pos Ru.2.2]; exact flt 4 (Or.inl ⟨rfl, b1⟩) _
      · rw [if_neg b1, if_pos Ru.2.2]; exact flt 8 (Or.inr ⟨rfl, h.resolve_left b1⟩) _
    by_cases a5 : tG S k 0 = 102
    · rw [if_pos a5]; exact ⟨Mm.o, fl0 (Or.inl a5)⟩
    rw [if_neg a5]
    by_cases a6 : tG S k 0 = 100
    · rw [if_pos a6]; exact ⟨Mm.o, fl0 (Or.inr a6)⟩
    rw [if_neg a6]
    refine ⟨Mm.o, ?_⟩
    rw [if_pos Ru.2.2]
    by_cases a7 : tG S k 0 = 122
    · rw [if_pos a7]
      refine w_Mo_words ?_
      rw [if_neg (by decide)]
      exact m_w6 (d := d + 7) R0 a7 al cu bu kF' kE' 21 0 rfl (Nat.zero_le _) rfl
    · rw [if_neg a7]
      have a8 : tG S k 0 = 114 := by
        have := hu.resolve_left ns
        unfold sm at this
        simp only [Bool.or_eq_true, decide_eq_true_iff] at this
        rcases this with ((z | z) | z) | z
        · exact absurd z a5
        · exact absurd z a6
        · exact absurd z a7
        · exact z
      have bl : bfN s.1 ≤ L := by unfold bfN; omega
      have eU : URd M L S k s.1 s.2.1 = kbP M (bfN s.1) (L - bfN s.1) (s.1 + 8 * (L - bfN s.1)) s.2.1 := by
        unfold URd
        rw [if_neg a4, if_pos a8]
      rw [eU] at kF' kE'
      have e42 : hI (sI (sI g 197 47 (iv (s.1 / 8))) 197 48 (tG S k 7)) 197 42 = iv (bfN s.1) := cu.2.2.1.1
      refine w_Mo_words ?_
      rw [if_pos rfl]
      refine ⟨Mm.o, ?_⟩
      rw [Ru.2.1.1, e42, iv_sub bl]
      rintro _ rfl
      exact m_w98 (d := d + 7) R0 ns al (by omega) (Or.inl ⟨rfl, rfl, by omega⟩) cu bu kF' kE'
  refine w_Mo_unit_52 ⟨Mm.o, ?_⟩
  rw [cr.2.1, if_neg (by decide), hb, cr.2.2.1.1]
  by_cases a8 : s.1 % 8 = 0
  · rw [show btI s.1 = 8 from if_pos a8, if_neg (by decide)]
    rintro _ rfl
    rw [show bfN s.1 = s.1 / 8 by unfold bfN; omega]
    exact body
  · rw [show btI s.1 = iv (s.1 % 8) from if_neg a8, if_pos (show iv (s.1 % 8) < 8 from (iv_lt (a := s.1 % 8) (b := 8) (by omega) (by omega)).mpr (by omega)), iv1, iv_sub (by unfold bfN; omega)]
    rintro _ rfl
    rw [show bfN s.1 - 1 = s.1 / 8 by unfold bfN; omega]
    exact body
end RDX
