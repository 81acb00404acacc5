/-! the Model's parts of writing: rows of bytes, sized units -/
section WRO
variable {d n : Nat} {V : Nat → Int64} {S : Tb} {g0 g : Hp} {k : Nat} {c : (Nat → Option Int64) × Int32 × Int32} {x p m : Int32}
def zI (z : Bool) : Int32 := if z = true then 1 else 0
def owd (V : Nat → Int64) (n : Nat) (z : Bool) (m B : Nat) (w : Wo) : Int32 × Nat × Wo := if z = true then end0 (pwd V n 1 m B w) else pwd V n 0 m B w
theorem owd_s {z : Bool} {m B : Nat} {w : Wo} : owd V n z (m + 1) B w = if w.1 < n then (if V w.1 < (zI z).toInt64 ∨ 255 < V w.1 then (2, B, w) else if bfN B < 120 then owd V n z m (B + 8) (w.1 + 1, upW w.2 (bfN B) ((V w.1).toInt32 &&& 255)) else (2, B, w)) else (1, B, w) := by
  have two : ∀ x : Int32 × Nat × Wo, ¬ x.1 = 0 → end0 x = x := fun x hx => by unfold end0; rw [if_neg hx]
  unfold owd
  cases z with
  | true =>
    rw [if_pos rfl, if_pos rfl]
    rw [pwd]
    show _ = if w.1 < n then (if V w.1 < 1 ∨ 255 < V w.1 then _ else _) else _
    split
    · split
      · exact two _ (show ¬ (2 : Int32) = 0 by decide)
      · split
        · rfl
        · exact two _ (show ¬ (2 : Int32) = 0 by decide)
    · exact two _ (show ¬ (1 : Int32) = 0 by decide)
  | false =>
    rw [if_neg (show ¬ false = true by decide), if_neg (show ¬ false = true by decide)]
    rw [pwd]; rfl
theorem m_ww41F {K : Hp → Prop} {x1 x4 : Int32} {x2 : Int64} {y5 y6 : Option Value} (fl : FlR g0 x p m g) (kk : K g) : Wp (d + 2) m_Mo_writeWords 41 [some (.ref 197), some (.int x1), some (.long x2), none, some (.int x4), y5, y6] [] g (QV K) := by
  refine w_Mo_writeWords_41 ⟨fl.o.1, ?_⟩
  rw [if_neg fl.n0]
  split
  · exact kk
  · exact m_putF fl kk
theorem m_ww41 {K : Hp → Prop} (z : Bool) {M : Nat} (hM : M < 1000) (R0 : Wm0 n V S g0) : ∀ (i j B : Nat) (w : Wo) (g : Hp) (y5 y6 : Option Value), j + i = M → RxW n S g0 (B, w, c) g → KfW n S g0 c g (owd V n z i B w) K → Wp (d + 2) m_Mo_writeWords 41 [some (.ref 197), some (.int (zI z)), some (.long (jv M)), none, some (.int (iv j)), y5, y6] [] g (QV K)
  | 0, j, B, w, g, y5, y6, e, r, kk => by
    have R := R0.fr r.1.1
    refine w_Mo_writeWords_41 ⟨R.1.1.1.o, ?_⟩
    rw [r.1.2.1, if_pos rfl, iv_jv (by omega), if_neg (fun q => by have := (jv_lt (by omega) (by omega)).mp q; omega)]
    cases z with
    | false =>
      rw [if_pos (show zI false = 0 from rfl)]
      exact kk.1 rfl g r (Mk.refl g)
    | true =>
      rw [if_neg (show ¬ zI true = 0 by decide)]
      have kk : KfW n S g0 c g (if bfN B < 120 then (0, B + 8, w.1, upW w.2 (bfN B) 0) else (2, B, w)) K := kk
      refine m_wput R0 r.1 (fun y g' fl => ?_) fun y g' c' b' hm => ?_
      · have y : ¬ bfN B < 120 := y
        rw [if_neg y] at kk
        exact kk.2 (show ¬ (2 : Int32) = 0 by decide) g' fl
      · have y : bfN B < 120 := y
        rw [if_pos y] at kk
        exact kk.1 rfl g' ⟨c', by rw [b', r.2]; exact (btI8 B).symm⟩ hm
  | i + 1, j, B, w, g, y5, y6, e, r, kk => by
    have R := R0.fr r.1.1
    refine w_Mo_writeWords_41 ⟨R.1.1.1.o, ?_⟩
    rw [r.1.2.1, if_pos rfl, iv_jv (by omega), if_pos ((jv_lt (by omega) (by omega)).mpr (by omega))]
    rw [owd_s] at kk
    -- a byte put
    have put : ∀ (v : Int64) (g' : Hp), V w.1 = v → w.1 < n → ¬ (v < (zI z).toInt64 ∨ 255 < v) → CoW n S g0 (B, (w.1 + 1, w.2), c) g' → hI g' 197 43 = hI g 197 43 → Mk g g' → Ca (d + 1) m_Mo_wrong [.ref 197, .int 0] g' (QV fun h39 => (hS h39 197).1 = 8 ∧ Ca (d + 1) m_Mo_putByte [.ref 197, .int v.toInt32] h39 (QV fun h42 => ∀ v44 : Int32, v44 = iv j + 1 → Wp (d + 2) m_Mo_writeWords 41 [some (.ref 197), some (.int (zI z)), some (.long (jv M)), none, some (.int v44), some (.long v), none] [] h42 (QV K))) := by
      intro v g' ev tn ok c' b' hm
      refine w_Mo_wrong ?_
      rw [if_pos rfl, iv1, iv_add]
      rw [if_pos tn, ev, if_neg ok] at kk
      refine ⟨(R0.fr c'.1).1.1.1.o, m_wput R0 c' (fun y g'' fl => ?_) fun y g'' c'' b'' hm' => ?_⟩
      · have y : ¬ bfN B < 120 := y
        rw [if_neg y] at kk
        rintro _ rfl
        exact m_ww41F fl (kk.2 (show ¬ (2 : Int32) = 0 by decide) g'' fl)
      · have y : bfN B < 120 := y
        rw [if_pos y] at kk
        rintro _ rfl
        exact m_ww41 z hM R0 i (j + 1) (B + 8) _ g'' _ _ (by omega) ⟨c'', by rw [b'', b', r.2]; exact (btI8 B).symm⟩ (kk.to (hm.trans hm'))
    have out : ∀ (v : Int64) (y : Int32) (g' : Hp) (e : Int32), FlR g0 e c.2.1 c.2.2 g' → K g' → Ca (d + 1) m_Mo_wrong [.ref 197, .int y] g' (QV fun h39 => (hS h39 197).1 = 8 ∧ Ca (d + 1) m_Mo_putByte [.ref 197, .int v.toInt32] h39 (QV fun h42 => ∀ v44 : Int32, v44 = iv j + 1 → Wp (d + 2) m_Mo_writeWords 41 [some (.ref 197), some (.int (zI z)), some (.long (jv M)), none, some (.int v44), some (.long v), none] [] h42 (QV K))) := by
      intro v y g' e fl kg
      refine m_wrongF fl ⟨fl.o.1, m_putF fl ?_⟩
      intro v44 _
      exact m_ww41F fl kg
    have bad : ∀ (v : Int64) (g' : Hp), V w.1 = v → w.1 < n → (v < (zI z).toInt64 ∨ 255 < v) → CoW n S g0 (B, (w.1 + 1, w.2), c) g' → Ca (d + 1) m_Mo_wrong [.ref 197, .int 1] g' (QV fun h39 => (hS h39 197).1 = 8 ∧ Ca (d + 1) m_Mo_putByte [.ref 197, .int v.toInt32] h39 (QV fun h42 => ∀ v44 : Int32, v44 = iv j + 1 → Wp (d + 2) m_Mo_writeWords 41 [some (.ref 197), some (.int (zI z)), some (.long (jv M)), none, some (.int v44), some (.long v), none] [] h42 (QV K))) := by
      intro v g' ev tn ok c'
      rw [if_pos tn, ev, if_pos ok] at kk
      have fl := FlR.ww R0 c' (x := 3) (Or.inr rfl)
      refine m_wrong3 R0 c' ⟨(R0.fr c'.1).1.1.1.o, m_putF fl ?_⟩
      intro v44 _
      exact m_ww41F fl (kk.2 (show ¬ (2 : Int32) = 0 by decide) _ fl)
    refine m_wtake R0 r.1 (fun y g' fl => ?_) fun y g' c' b' hm => ?_
    · have y : ¬ w.1 < n := y
      rw [if_neg y] at kk
      have kg := kk.2 (show ¬ (1 : Int32) = 0 by decide) g' fl
      have o := fun (v : Int64) (y : Int32) => out v y g' 2 fl kg
      split
      · split
        · exact ⟨fl.o.1, o _ _⟩
        · split
          · exact ⟨fl.o.1, o _ _⟩
          · exact ⟨fl.o.1, o _ _⟩
      · split
        · exact ⟨fl.o.1, o _ _⟩
        · split
          · exact ⟨fl.o.1, o _ _⟩
          · exact ⟨fl.o.1, o _ _⟩
    · have y : w.1 < n := y
      have c' : CoW n S g0 (B, (w.1 + 1, w.2), c) g' := c'
      have o := (R0.fr c'.1).1.1.1.o
      have p := put _ g' rfl y
      have b := bad _ g' rfl y
      show (if zI z = 0 then (if V w.1 < 0 then _ else _) else _)
      cases z with
      | false =>
        rw [if_pos (show zI false = 0 from rfl)]
        by_cases q : V w.1 < 0
        · rw [if_pos q]; exact ⟨o, b (Or.inl q) c'⟩
        · rw [if_neg q]
          by_cases q2 : 255 < V w.1
          · rw [if_pos q2]; exact ⟨o, b (Or.inr q2) c'⟩
          · rw [if_neg q2]; exact ⟨o, p (fun z => z.elim q q2) c' b' hm⟩
      | true =>
        rw [if_neg (show ¬ zI true = 0 by decide)]
        by_cases q : V w.1 < 1
        · rw [if_pos q]; exact ⟨o, b (Or.inl q) c'⟩
        · rw [if_neg q]
          by_cases q2 : 255 < V w.1
          · rw [if_pos q2]; exact ⟨o, b (Or.inr q2) c'⟩
          · rw [if_neg q2]; exact ⟨o, p (fun z => z.elim q q2) c' b' hm⟩
/-! behind a sized unit's value -/
def TwI (d : Nat) (K : Hp → Prop) (k : Nat) (y : Int32) (v : Int64) (h : Hp) : Prop := (hS h 197).1 = 8 ∧ ((hS h (hR h 197 34)).1 = 21 ∧ (¬ (hR h 197 34) = 1 ∧ (ainr (iv k) (hS h (hR h 197 34)).2 = true ∧ (∀ h88 : Hp, h88 = sL h (hR h 197 34) (iv k).toNatClampNeg v → (if 0 < (hI h88 197 41) then K h88 else (if y = 0 then Ca d m_Mo_writeNumber [.ref 197, .int (iv k), .long v] h88 (QV (fun h89 => K h89)) else ((hS h (hR h88 197 13)).1 = 20 ∧ (ainr (iv k) (hS h (hR h88 197 13)).2 = true ∧ Ca d m_Mo_writeBits [.ref 197, .long v, .int (hI h88 (hR h88 197 13) (iv k).toNatClampNeg)] h88 (QV (fun h93 => K h93))))))))))
def TwP (d : Nat) (K : Hp → Prop) (k : Nat) (y : Int32) (v : Int64) (h : Hp) : Prop := ((hS h 197).1 = 8 ∧ ((hS h (hR h 197 29)).1 = 21 ∧ (ainr (iv k) (hS h (hR h 197 29)).2 = true ∧ (if v < (hL h (hR h 197 29) (iv k).toNatClampNeg) then Ca d m_Mo_wrong [.ref 197, .int (1 : Int32)] h (QV (TwI d K k y v)) else ((hS h (hR h 197 30)).1 = 21 ∧ (ainr (iv k) (hS h (hR h 197 30)).2 = true ∧ (if (hL h (hR h 197 30) (iv k).toNatClampNeg) < v then Ca d m_Mo_wrong [.ref 197, .int (1 : Int32)] h (QV (TwI d K k y v)) else Ca d m_Mo_wrong [.ref 197, .int (0 : Int32)] h (QV (TwI d K k y v)))))))))
theorem m_twI {K : Hp → Prop} {y : Int32} {v : Int64} (hk : k < 90) (fl : FlR g0 x p m g) (kk : ∀ g', FlR g0 x p m g' → K g') : TwI d K k y v g := by
  obtain ⟨o, f, c0, Mm⟩ := fl.o
  have fl2 := fl.mono (MdF.l (a := 222) (j := k) (v := v) (Or.inl rfl)) fun _ _ => rfl
  unfold TwI
  rw [Mm.r34, Mm.s222, iv_clamp (by omega)]
  refine ⟨o, rfl, by decide, ainr_iv (by omega) (by omega), ?_⟩
  rintro _ rfl
  rw [if_pos fl2.p0]
  exact kk _ fl2
theorem m_twF {K : Hp → Prop} {y : Int32} {v : Int64} (hk : k < 90) (fl : FlR g0 x p m g) (kk : ∀ g', FlR g0 x p m g' → K g') : TwP d K k y v g := by
  obtain ⟨o, f, c0, Mm⟩ := fl.o
  have i := m_twI (d := d) (y := y) (v := v) hk fl kk
  unfold TwP
  rw [Mm.r29, Mm.s217, Mm.r30, Mm.s218]
  refine ⟨o, rfl, ainr_iv (by omega) (by omega), ?_⟩
  split
  · exact m_wrongF fl i
  · refine ⟨rfl, ainr_iv (by omega) (by omega), ?_⟩
    split
    · exact m_wrongF fl i
    · exact m_wrongF fl i
theorem m_tw {K : Hp → Prop} {y : Int32} {v : Int64} {B : Nat} {w : Wo} {f : Nat → Option Int64} (R0 : Wm0 n V S g0) (T : TW S) (hk : k < S.1) (hz : sz (tG S k 0) = true) (cw : CoW n S g0 (B, w, f, p, m) g) (kE : (v < loT S k ∨ hiT S k < v) → ∀ g', FlR g0 3 p m g' → K g') (kN : ¬ (v < loT S k ∨ hiT S k < v) → ∀ g', CoW n S g0 (B, w, (fun q => if q = k ∧ sz (tG S k 0) = true then some v else f q), p, m) g' → hI g' 197 43 = hI g 197 43 → Mk g g' → if y = 0 then Ca d m_Mo_writeNumber [.ref 197, .int (iv k), .long v] g' (QV K) else Ca d m_Mo_writeBits [.ref 197, .long v, .int (iv (dgN S k))] g' (QV K)) : TwP d K k y v g := by
  have R := R0.fr cw.1
  have Mm := R.1.1.1
  have u90 := R.1.1.2.2.1
  have ax : ainr (iv k) 90 = true := ainr_iv (by omega) (by omega)
  have cx : (iv k).toNatClampNeg = k := iv_clamp (by omega)
  obtain ⟨lo, hi⟩ := R.1.2.1 k hk hz
  have i1 : (v < loT S k ∨ hiT S k < v) → Ca d m_Mo_wrong [.ref 197, .int 1] g (QV (TwI d K k y v)) := fun q => m_wrong3 R0 cw (m_twI (by omega) (FlR.ww R0 cw (Or.inr rfl)) (kE q))
  have i0 : ¬ (v < loT S k ∨ hiT S k < v) → Ca d m_Mo_wrong [.ref 197, .int 0] g (QV (TwI d K k y v)) := fun q => by
    refine w_Mo_wrong ?_
    rw [if_pos rfl]
    unfold TwI
    rw [Mm.r34, Mm.s222, cx]
    refine ⟨Mm.o, rfl, by decide, ax, ?_⟩
    rintro _ rfl
    have c2 : CoW n S g0 (B, w, (fun q => if q = k ∧ sz (tG S k 0) = true then some v else f q), p, m) (sL g 222 k v) := by
      obtain ⟨c1, c2, c3, c5, c7, c9, c10⟩ := cw
      refine ⟨c1.trans (MdF.l (Or.inl rfl)), c2, c3, c5, c7, c9, fun q u hq => ?_⟩
      have hq : (if q = k ∧ sz (tG S k 0) = true then some v else f q) = some u := hq
      by_cases e : q = k
      · subst e
        rw [if_pos ⟨rfl, hz⟩] at hq
        rw [hL_s]
        exact ⟨⟨hk, hz⟩, Option.some.inj hq⟩
      · rw [if_neg (fun z => e z.1)] at hq
        have := c10 q u hq
        exact ⟨this.1, by rw [hL_o (by omega)]; exact this.2⟩
    have k0 := kN q _ c2 rfl Mk.v
    rw [show hI (sL g 222 k v) 197 41 = 0 from cw.2.1, if_neg (by decide)]
    have wd : hI (sL g 222 k v) 203 k = iv (dgN S k) := by
      rw [hI_sL, R.1.1.f (j := 1) (by decide) hk]
      exact (dg_num' (T.2.2.1 k hk).1 hz).1
    by_cases e : y = 0
    · rw [if_pos e] at k0 ⊢; exact k0
    · rw [if_neg e] at k0 ⊢
      have r13 : hR (sL g 222 k v) 197 13 = 203 := Mm.r13
      rw [r13, Mm.s203, wd]
      exact ⟨rfl, ax, k0⟩
  unfold TwP
  rw [Mm.r29, Mm.s217, Mm.r30, Mm.s218, cx, lo, hi]
  refine ⟨Mm.o, rfl, ax, ?_⟩
  by_cases q1 : v < loT S k
  · rw [if_pos q1]; exact i1 (Or.inl q1)
  · rw [if_neg q1]
    refine ⟨rfl, ax, ?_⟩
    by_cases q2 : hiT S k < v
    · rw [if_pos q2]; exact i1 (Or.inr q2)
    · rw [if_neg q2]; exact i0 (fun y => y.elim q1 q2)
end WRO
