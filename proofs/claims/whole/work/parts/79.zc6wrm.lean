/-! the Model's parts of writing: bytes, bits, rows of bytes -/
section WRN
variable {d n : Nat} {V : Nat → Int64} {S : Tb} {g0 g : Hp} {k : Nat} {c : (Nat → Option Int64) × Int32 × Int32} {x p m : Int32} {bt : Int32}
/-- how a loop's outcome is met -/
def KfW (n : Nat) (S : Tb) (g0 : Hp) (c : (Nat → Option Int64) × Int32 × Int32) (g : Hp) (o : Int32 × Nat × Wo) (K : Hp → Prop) : Prop := (o.1 = 0 → ∀ g', RxW n S g0 (o.2.1, o.2.2, c) g' → Mk g g' → K g') ∧ (¬ o.1 = 0 → ∀ g', FlR g0 (o.1 + 1) c.2.1 c.2.2 g' → K g')
theorem KfW.to {g' : Hp} {o : Int32 × Nat × Wo} {K : Hp → Prop} (k : KfW n S g0 c g o K) (h : Mk g g') : KfW n S g0 c g' o K := ⟨fun z g'' r hm => k.1 z g'' r (h.trans hm), k.2⟩
theorem btI8 (B : Nat) : btI (B + 8) = btI B := by unfold btI; rw [show (B + 8) % 8 = B % 8 by omega]
theorem m_wn11F {K : Hp → Prop} {v : Int64} {wd : Nat} (T : TabM g S) (hk : k < S.1) (fl : FlR g0 x p m g) (hw : wd ≤ 8) (kk : K g) : ∀ (i j : Nat), j + i = wd → Wp (d + 2) m_Mo_writeNumber 11 [some (.ref 197), some (.int (iv k)), some (.long v), none, some (.int (iv wd)), some (.int (iv j))] [] g (QV K)
  | 0, j, e => by
    refine w_Mo_writeNumber_11 ?_
    rw [if_neg (fun z => by have := (iv_lt (by omega) (by omega)).mp z; omega)]
    exact kk
  | i + 1, j, e => by
    obtain ⟨o, f, c0, Mm⟩ := fl.o
    have u90 := T.2.2.1
    refine w_Mo_writeNumber_11 ?_
    rw [if_pos ((iv_lt (by omega) (by omega)).mpr (by omega)), Mm.r12, Mm.s202]
    refine ⟨o, rfl, ainr_iv (by omega) (by omega), ?_⟩
    have r : ∀ x, Ca (d + 1) m_Mo_putByte [.ref 197, .int x] g (QV fun h8 => ∀ v10 : Int32, v10 = iv j + 1 → Wp (d + 2) m_Mo_writeNumber 11 [some (.ref 197), some (.int (iv k)), some (.long v), none, some (.int (iv wd)), some (.int v10)] [] h8 (QV K)) := fun x => by
      refine m_putF fl ?_
      rw [iv1, iv_add]
      rintro _ rfl
      exact m_wn11F T hk fl hw kk i (j + 1) (by omega)
    split
    · exact r _
    · exact r _
theorem m_wn11 {K : Hp → Prop} {v : Int64} {wd : Nat} (R0 : Wm0 n V S g0) (hk : k < S.1) (hw : wd ≤ 8) : ∀ (i j B : Nat) (w : Wo) (g : Hp), j + i = wd → RxW n S g0 (B, w, c) g → KfW n S g0 c g (pby (byV v wd (decide (tG S k 0 = 118))) i j B w) K → Wp (d + 2) m_Mo_writeNumber 11 [some (.ref 197), some (.int (iv k)), some (.long v), none, some (.int (iv wd)), some (.int (iv j))] [] g (QV K)
  | 0, j, B, w, g, e, r, kk => by
    refine w_Mo_writeNumber_11 ?_
    rw [if_neg (fun z => by have := (iv_lt (by omega) (by omega)).mp z; omega)]
    exact kk.1 rfl g r (Mk.refl g)
  | i + 1, j, B, w, g, e, r, kk => by
    have R := R0.fr r.1.1
    have Mm := R.1.1.1
    have u90 := R.1.1.2.2.1
    have cx : (iv k).toNatClampNeg = k := iv_clamp (by omega)
    have kd : hI g 202 (iv k).toNatClampNeg = tG S k 0 := by rw [cx]; exact R.1.1.kd (by omega)
    refine w_Mo_writeNumber_11 ?_
    rw [if_pos ((iv_lt (by omega) (by omega)).mpr (by omega)), Mm.r12, Mm.s202, kd]
    refine ⟨Mm.o, rfl, ainr_iv (by omega) (by omega), ?_⟩
    have go : ∀ (q : Nat) (x : Int32), x &&& 255 = bx v q → q = (if decide (tG S k 0 = 118) = true then j else wd - 1 - j) → Ca (d + 1) m_Mo_putByte [.ref 197, .int x] g (QV fun h8 => ∀ v10 : Int32, v10 = iv j + 1 → Wp (d + 2) m_Mo_writeNumber 11 [some (.ref 197), some (.int (iv k)), some (.long v), none, some (.int (iv wd)), some (.int v10)] [] h8 (QV K)) := by
      intro q x hx hq
      unfold pby at kk
      rw [iv1, iv_add]
      refine m_wput R0 r.1 (fun z g' fl => ?_) fun z g' c' b' hm => ?_
      · have z : ¬ bfN B < 120 := z
        rw [if_neg z] at kk
        rintro _ rfl
        exact m_wn11F (fl.1.1.tab R0.1.1) hk fl hw (kk.2 (show ¬ (2 : Int32) = 0 by decide) g' fl) i (j + 1) (by omega)
      · have z : bfN B < 120 := z
        rw [if_pos z] at kk
        rintro _ rfl
        rw [hx, show bx v q = byV v wd (decide (tG S k 0 = 118)) j by unfold byV; rw [hq]] at c'
        refine m_wn11 R0 hk hw i (j + 1) (B + 8) _ g' (by omega) ⟨c', ?_⟩ (kk.to hm)
        rw [b', r.2]; exact (btI8 B).symm
    by_cases q : tG S k 0 = 118
    · rw [if_pos q]
      exact go j _ rfl (by rw [decide_eq_true q, if_pos rfl])
    · rw [if_neg q, show iv wd - 1 - iv j = iv (wd - 1 - j) by rw [iv1, iv_sub (by omega), iv_sub (by omega)]]
      exact go (wd - 1 - j) _ rfl (by rw [decide_eq_false q, if_neg (by decide)])
theorem m_wf57F {K : Hp → Prop} {v : Int64} {y1 y2 : Option Value} (fl : FlR g0 x p m g) (kk : K g) : ∀ (i : Nat), i < 9 → Wp (d + 2) m_Mo_floating 57 [some (.ref 197), y1, y2, some (.long v), none, some (.int (dwn i))] [] g (QV K)
  | 0, e => by
    refine w_Mo_floating_57 ?_
    rw [if_pos dwn_0]; exact kk
  | i + 1, e => by
    refine w_Mo_floating_57 ?_
    rw [dwn_s (by omega), if_neg (iv_neg (by omega))]
    refine ⟨fl.o.1, m_putF fl ?_⟩
    rintro _ rfl
    exact m_wf57F fl kk i (by omega)
theorem m_wf57 {K : Hp → Prop} {v : Int64} {wd : Nat} {y1 y2 : Option Value} (R0 : Wm0 n V S g0) (hw : wd ≤ 8) : ∀ (i j B : Nat) (w : Wo) (g : Hp), j + i = wd → RxW n S g0 (B, w, c) g → KfW n S g0 c g (pby (byV v wd false) i j B w) K → Wp (d + 2) m_Mo_floating 57 [some (.ref 197), y1, y2, some (.long v), none, some (.int (dwn i))] [] g (QV K)
  | 0, j, B, w, g, e, r, kk => by
    refine w_Mo_floating_57 ?_
    rw [if_pos dwn_0]
    exact kk.1 rfl g r (Mk.refl g)
  | i + 1, j, B, w, g, e, r, kk => by
    have R := R0.fr r.1.1
    refine w_Mo_floating_57 ?_
    rw [dwn_s (by omega), if_neg (iv_neg (by omega))]
    unfold pby at kk
    refine ⟨R.1.1.1.o, m_wput R0 r.1 (fun z g' fl => ?_) fun z g' c' b' hm => ?_⟩
    · have z : ¬ bfN B < 120 := z
      rw [if_neg z] at kk
      rintro _ rfl
      exact m_wf57F fl (kk.2 (show ¬ (2 : Int32) = 0 by decide) g' fl) i (by omega)
    · have z : bfN B < 120 := z
      rw [if_pos z] at kk
      rintro _ rfl
      rw [show (v >>> (((8 : Int32) * iv i).toInt64 &&& 63)).toInt32 &&& 255 = byV v wd false j by unfold byV bx; rw [if_neg (by decide), show wd - 1 - j = i by omega]] at c'
      refine m_wf57 R0 hw i (j + 1) (B + 8) _ g' (by omega) ⟨c', ?_⟩ (kk.to hm)
      rw [b', r.2]; exact (btI8 B).symm
/-- a bit more, the row being long enough -/
theorem m_wb43 {K : Hp → Prop} {v : Int64} {y3 : Option Value} {B i : Nat} {w : Wo} (hi : i < 8) (R0 : Wm0 n V S g0) (f : MdF g0 g) (f0 : hI g 197 41 = 0) (hp : hI g 197 42 = iv (B / 8 + 1)) (l120 : B / 8 + 1 ≤ 120) (sp : hI g 197 47 = c.2.1 ∧ hI g 197 48 = c.2.2) (ht : hI g 197 46 = iv w.1 ∧ w.1 ≤ n) (hW : ∀ i, i < B / 8 → hI g 227 i = w.2 i) (hy : hI g 227 (B / 8) = if B % 8 = 0 then 0 else w.2 (B / 8)) (hb : hI g 197 43 = iv (B % 8)) (hv : ∀ q v, c.1 q = some v → (q < S.1 ∧ sz (tG S q 0) = true) ∧ hL g 222 q = v)
    (k0 : ∀ g', RxW n S g0 (B + 1, (w.1, oneB (btV v i) B w.2), c) g' → Mk g g' → ∀ y3, Wp (d + 2) m_Mo_writeBits 5 [some (.ref 197), some (.long v), none, y3, some (.int (dwn i))] [] g' (QV K)) : Wp (d + 2) m_Mo_writeBits 43 [some (.ref 197), some (.long v), none, y3, some (.int (iv i))] [] g (QV K) := by
  have R := R0.fr f
  have Mm := R.1.1.1
  refine w_Mo_writeBits_43 ⟨Mm.o, ?_⟩
  rw [f0, if_neg (by decide), Mm.r44, Mm.s227, hp, show iv (B / 8 + 1) - 1 = iv (B / 8) from iv_dec, iv_clamp (by omega), hb]
  refine ⟨rfl, ainr_iv (by omega) (by omega), by decide, ?_⟩
  rintro _ rfl
  have eb : ((v >>> ((iv i).toInt64 &&& 63)) &&& (1 : Int64)).toInt32 = btV v i := by
    unfold btV; rw [Int64.toInt32_and]; rfl
  rw [eb, hI_ne (show ¬ 197 = 227 by decide), hb, iv1, iv_add]
  rintro _ rfl _ rfl
  have e8 : bfN (B + 1) = B / 8 + 1 := by unfold bfN; omega
  have ox : ∀ j v u, ¬ j = 43 → hI (sI (sI g 227 (B / 8) v) 197 43 u) 197 j = hI g 197 j := fun j v u hj => by rw [hI_o (by omega), hI_ne (by decide)]
  refine k0 _ ⟨⟨(f.trans MdF.r).trans (MdF.i (by omega)), by rw [ox 41 _ _ (by decide)]; exact f0, ⟨by rw [ox 42 _ _ (by decide), hp]; show _ = iv (bfN (B + 1)); rw [e8], by show bfN (B + 1) ≤ 120; omega⟩, ⟨by rw [ox 47 _ _ (by decide)]; exact sp.1, by rw [ox 48 _ _ (by decide)]; exact sp.2⟩, ⟨by rw [ox 46 _ _ (by decide)]; exact ht.1, ht.2⟩, fun i hi => ?_, hv⟩, ?_⟩ (Mk.r.trans (Mk.i (by decide))) _
  · have hi : i < bfN (B + 1) := hi
    rw [hI_ne (by decide)]
    show _ = oneB (btV v _) B w.2 i
    unfold oneB upW
    by_cases e : i = B / 8
    · rw [if_pos e, e, hI_s, hy]
    · rw [if_neg e, hI_o (by omega)]; exact hW i (by omega)
  · rw [hI_s]
    show _ = btI (B + 1)
    unfold btI
    by_cases e : (B + 1) % 8 = 0
    · rw [if_pos e, show B % 8 + 1 = 8 by omega]; rfl
    · rw [if_neg e, show B % 8 + 1 = (B + 1) % 8 by omega]
theorem m_wb5 {K : Hp → Prop} {v : Int64} (R0 : Wm0 n V S g0) : ∀ (i B : Nat) (w : Wo) (g : Hp) (y3 : Option Value), i < 9 → RxW n S g0 (B, w, c) g → KfW n S g0 c g (pbt v i B w) K → Wp (d + 2) m_Mo_writeBits 5 [some (.ref 197), some (.long v), none, y3, some (.int (dwn i))] [] g (QV K)
  | 0, B, w, g, y3, hi, r, kk => by
    refine w_Mo_writeBits_5 ?_
    rw [if_pos dwn_0]
    exact kk.1 rfl g r (Mk.refl g)
  | i + 1, B, w, g, y3, hi, r, kk => by
    have R := R0.fr r.1.1
    have Mm := R.1.1.1
    obtain ⟨⟨c1, c2, ⟨c3, c4⟩, ⟨c5, c6⟩, ⟨c7, c8⟩, c9, c10⟩, hb⟩ := id r
    have c3 : hI g 197 42 = iv (bfN B) := c3
    have c4 : bfN B ≤ 120 := c4
    have hb : hI g 197 43 = btI B := hb
    have c9 : ∀ i, i < bfN B → hI g 227 i = w.2 i := c9
    refine w_Mo_writeBits_5 ?_
    rw [dwn_s (by omega), if_neg (iv_neg (by omega)), c2, if_pos rfl, hb]
    refine ⟨Mm.o, ?_⟩
    unfold pbt at kk
    by_cases q : B % 8 = 0
    · have e8 : bfN B = B / 8 := by unfold bfN; omega
      rw [show btI B = 8 from if_pos q, if_pos rfl]
      refine m_wput R0 r.1 (fun z g' fl => ?_) fun z g' c' b' hm => ?_
      · have z : ¬ bfN B < 120 := z
        rw [if_pos ⟨q, z⟩] at kk
        refine ⟨fl.o.1, ?_⟩
        rw [if_neg fl.n0]
        refine w_Mo_writeBits_43 ⟨fl.o.1, ?_⟩
        rw [if_pos fl.p0]
        exact kk.2 (show ¬ (2 : Int32) = 0 by decide) g' fl
      · have z : bfN B < 120 := z
        rw [if_neg (fun y => y.2 z)] at kk
        have R' := R0.fr c'.1
        have e9 : bfN (B + 8) = B / 8 + 1 := by unfold bfN; omega
        obtain ⟨d1, d2, ⟨d3, d4⟩, ⟨d5, d6⟩, ⟨d7, d8⟩, d9, d10⟩ := id c'
        have d3 : hI g' 197 42 = iv (bfN (B + 8)) := d3
        have d9 : ∀ i, i < bfN (B + 8) → hI g' 227 i = upW w.2 (bfN B) (0 &&& 255) i := d9
        refine ⟨R'.1.1.1.o, ?_⟩
        rw [d2, if_pos rfl]
        rintro _ rfl
        have c'' := c'.set (j := 43) (v := 0) (Or.inr rfl)
        have ox : ∀ j, ¬ j = 43 → hI (sI g' 197 43 0) 197 j = hI g' 197 j := fun j hj => hI_o (by omega)
        refine m_wb43 (d := d) (c := c) (B := B) (w := w) (by omega) R0 c''.1 c''.2.1 (by rw [ox 42 (by decide), d3, e9]) (by omega) ⟨by rw [ox 47 (by decide)]; exact d5, by rw [ox 48 (by decide)]; exact d6⟩ ⟨by rw [ox 46 (by decide)]; exact d7, d8⟩ (fun i hi => ?_) ?_ (by rw [hI_s, q]; rfl) d10 fun g'' r' hm' y => m_wb5 R0 i (B + 1) _ g'' y (by omega) r' (kk.to ((hm.trans (Mk.i (by decide))).trans hm'))
        · rw [hI_ne (by decide), d9 i (by omega)]
          unfold upW
          rw [if_neg (by omega)]
        · rw [hI_ne (by decide), d9 _ (by omega), if_pos q]
          unfold upW
          rw [if_pos e8.symm]; rfl
    · have e8 : bfN B = B / 8 + 1 := by unfold bfN; omega
      rw [show btI B = iv (B % 8) from if_neg q, if_neg (fun z => by have := (iv_inj (a := B % 8) (b := 8) (by omega) (by omega)).mp z; omega)]
      rw [if_neg (fun y => q y.1)] at kk
      refine m_wb43 (d := d) (c := c) (B := B) (w := w) (by omega) R0 c1 c2 (by rw [c3, e8]) (by omega) ⟨c5, c6⟩ ⟨c7, c8⟩ (fun i hi => c9 i (by omega)) (by rw [if_neg q]; exact c9 _ (by omega)) (by rw [hb]; exact if_neg q) c10 fun g'' r' hm' y => m_wb5 R0 i (B + 1) _ g'' y (by omega) r' (kk.to hm')
end WRN
