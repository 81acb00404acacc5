/-! the Model's state while it passes -/
section RDM
variable {d L : Nat} {M : Nat → Int32} {S : Tb} {g0 g : Hp} {k : Nat} {s : Ps (List Int64)}
/-- what a pass of the Model's may change -/
def MdF (g0 g : Hp) : Prop := (hR g = hR g0 ∧ hD g = hD g0 ∧ hS g = hS g0 ∧ hN g = hN g0 ∧ hU g = hU g0) ∧ (∀ a, ¬ a = 197 → ¬ a = 223 → ¬ a = 224 → ¬ a = 226 → ¬ a = 227 → hI g a = hI g0 a) ∧ (∀ j, ¬ j = 39 → ¬ j = 41 → ¬ j = 42 → ¬ j = 43 → ¬ j = 46 → ¬ j = 47 → ¬ j = 48 → hI g 197 j = hI g0 197 j) ∧ (∀ a, ¬ a = 222 → ¬ a = 225 → ¬ a = 228 → hL g a = hL g0 a)
theorem MdF.refl (g : Hp) : MdF g g := ⟨⟨rfl, rfl, rfl, rfl, rfl⟩, fun _ _ _ _ _ _ => rfl, fun _ _ _ _ _ _ _ _ => rfl, fun _ _ _ _ => rfl⟩
theorem MdF.trans {g g' g'' : Hp} (a : MdF g g') (b : MdF g' g'') : MdF g g'' := by
  obtain ⟨⟨a1, a2, a3, a4, a5⟩, a6, a7, a8⟩ := a
  obtain ⟨⟨b1, b2, b3, b4, b5⟩, b6, b7, b8⟩ := b
  exact ⟨⟨b1.trans a1, b2.trans a2, b3.trans a3, b4.trans a4, b5.trans a5⟩, fun x h1 h2 h3 h4 h5 => (b6 x h1 h2 h3 h4 h5).trans (a6 x h1 h2 h3 h4 h5), fun j h1 h2 h3 h4 h5 h6 h7 => (b7 j h1 h2 h3 h4 h5 h6 h7).trans (a7 j h1 h2 h3 h4 h5 h6 h7), fun x h1 h2 h3 => (b8 x h1 h2 h3).trans (a8 x h1 h2 h3)⟩
theorem Mch.mdf {g' : Hp} (m : Mch g g') : MdF g g' := ⟨m.1, fun a h1 h2 h3 h4 _ => m.2.1 a h1 h2 h3 h4, fun j h1 _ _ _ _ _ _ => m.2.2.1 j h1, fun a _ h2 _ => m.2.2.2 a h2⟩
theorem MdF.i {j : Nat} {v : Int32} (h : j = 39 ∨ j = 41 ∨ j = 42 ∨ j = 43 ∨ j = 46 ∨ j = 47 ∨ j = 48) : MdF g (sI g 197 j v) := ⟨⟨rfl, rfl, rfl, rfl, rfl⟩, fun a h1 _ _ _ _ => hI_ne h1, fun i h1 h2 h3 h4 h5 h6 h7 => hI_o (by omega), fun _ _ _ _ => rfl⟩
theorem MdF.l {a j : Nat} {v : Int64} (h : a = 222 ∨ a = 228) : MdF g (sL g a j v) := ⟨⟨rfl, rfl, rfl, rfl, rfl⟩, fun _ _ _ _ _ _ => rfl, fun _ _ _ _ _ _ _ _ => rfl, fun b h1 _ h3 => hL_ne (by omega)⟩
theorem MdF.tab {g' : Hp} (m : MdF g g') (T : TabM g S) : TabM g' S := T.mono m.1.1 m.1.2.2.1 (m.2.2.1 23 (by decide) (by decide) (by decide) (by decide) (by decide) (by decide) (by decide)) fun a h1 h2 => m.2.1 a (by omega) (by omega) (by omega) (by omega) (by omega)
theorem MdF.sa {g' : Hp} {i : Nat} (m : MdF g g') (A : Sa g S i) : Sa g' S i := ⟨fun k hk z => by rw [m.2.2.2 217 (by decide) (by decide) (by decide), m.2.2.2 218 (by decide) (by decide) (by decide)]; exact A.1 k hk z, fun k hk => by rw [m.2.1 221 (by decide) (by decide) (by decide) (by decide) (by decide)]; exact A.2 k hk⟩
/-- where the Model's reading begins -/
def Rm0 (L : Nat) (M : Nat → Int32) (S : Tb) (g : Hp) : Prop := (TabM g S ∧ Sa g S S.1) ∧ (hI g 197 7 = iv L ∧ L ≤ 120 ∧ (∀ i, i < L → hI g 200 i = M i) ∧ (∀ i, L ≤ i → M i = 0) ∧ ∀ i, ∃ m, m < 256 ∧ M i = iv m) ∧ hI g 197 40 = 0
theorem Rm0.fr {g' : Hp} (R : Rm0 L M S g) (m : MdF g g') : Rm0 L M S g' := by
  obtain ⟨⟨r1, r2⟩, ⟨r3, r4, r5, r6, r7⟩, r8⟩ := R
  have e : ∀ j, (j = 7 ∨ j = 40) → hI g' 197 j = hI g 197 j := fun j hj => m.2.2.1 j (by omega) (by omega) (by omega) (by omega) (by omega) (by omega) (by omega)
  refine ⟨⟨m.tab r1, m.sa r2⟩, ⟨by rw [e 7 (Or.inl rfl)]; exact r3, r4, fun i hi => ?_, r6, r7⟩, by rw [e 40 (Or.inr rfl)]; exact r8⟩
  rw [m.2.1 200 (by decide) (by decide) (by decide) (by decide) (by decide)]
  exact r5 i hi
def FndM (g : Hp) (w : List Int64) : Prop := hI g 197 46 = iv w.length ∧ w.length ≤ 160 ∧ ∀ i, i < w.length → hL g 228 i = w.getD i 0
/-- all but the bit -/
def Cor (L : Nat) (S : Tb) (g0 : Hp) (s : Ps (List Int64)) (g : Hp) : Prop := MdF g0 g ∧ hI g 197 41 = 0 ∧ (hI g 197 42 = iv (bfN s.1) ∧ s.1 ≤ 8 * L) ∧ (hI g 197 47 = s.2.2.2.1 ∧ hI g 197 48 = s.2.2.2.2) ∧ FndM g s.2.1 ∧ (∀ q v, s.2.2.1 q = some v → (q < S.1 ∧ sz (tG S q 0) = true) ∧ hL g 222 q = v)
/-- the spare bits from bit r of byte m on -/
def mskZ (m : Int32) (r : Nat) : Prop := (m &&& ((1 <<< ((8 - iv r) &&& 31)) - 1)) = 0
def RxR (L : Nat) (S : Tb) (g0 : Hp) (s : Ps (List Int64)) (g : Hp) : Prop := Cor L S g0 s g ∧ hI g 197 43 = if s.1 % 8 = 0 then 8 else iv (s.1 % 8)
def RyR (L : Nat) (M : Nat → Int32) (S : Tb) (g0 : Hp) (s : Ps (List Int64)) (g : Hp) : Prop := Cor L S g0 s g ∧ s.1 % 8 = 0 ∧ (hI g 197 43 = 8 ∨ ∃ r, 1 ≤ r ∧ r < 8 ∧ hI g 197 43 = iv r ∧ 8 ≤ s.1 ∧ mskZ (M (s.1 / 8 - 1)) r)
def DmR (L : Nat) (M : Nat → Int32) (S : Tb) (g0 : Hp) (s : Ps (List Int64)) (g : Hp) : Prop := Cor L S g0 s g ∧ ¬ s.1 % 8 = 0 ∧ hI g 197 43 = iv (s.1 % 8) ∧ ¬ mskZ (M (s.1 / 8)) (s.1 % 8)
def FlR (g0 : Hp) (c p m : Int32) (g : Hp) : Prop := (MdF g0 g ∧ (hI g 197 41 = c ∧ (c = 2 ∨ c = 3)) ∧ hI g 197 47 = p ∧ hI g 197 48 = m) ∧ ShM g0
theorem Cor.mch {g' : Hp} (c : Cor L S g0 s g) (m : Mch g g') : Cor L S g0 s g' := by
  obtain ⟨c1, c2, ⟨c3, c4⟩, ⟨c5, c6⟩, ⟨c7, c8, c9⟩, c10⟩ := c
  have e : ∀ j, ¬ j = 39 → hI g' 197 j = hI g 197 j := m.2.2.1
  refine ⟨c1.trans m.mdf, by rw [e 41 (by decide)]; exact c2, ⟨by rw [e 42 (by decide)]; exact c3, c4⟩, ⟨by rw [e 47 (by decide)]; exact c5, by rw [e 48 (by decide)]; exact c6⟩, ⟨by rw [e 46 (by decide)]; exact c7, c8, fun i hi => by rw [m.2.2.2 228 (by decide)]; exact c9 i hi⟩, fun q v hq => by rw [m.2.2.2 222 (by decide)]; exact c10 q v hq⟩
theorem Cor.bm (R : Rm0 L M S g0) (c : Cor L S g0 s g) : Bm S s g := by
  obtain ⟨⟨T, A⟩, -, -⟩ := R.fr c.1
  have l := R.2.1.2.1
  have := c.2.2.1.2
  exact ⟨T, A, c.2.1, ⟨c.2.2.1.1, by omega⟩, fun q v hq => ⟨(c.2.2.2.2.2 q v hq).1.1, (c.2.2.2.2.2 q v hq).2⟩⟩
def btm (m r : Nat) : Int32 := (iv m >>> ((7 - iv r) &&& 31)) &&& 1
def spg (m : Nat) : Nat → Nat → Int32
  | 0, _ => 0
  | f + 1, r => if r = 8 then 0 else if btm m r = 0 then spg m f (r + 1) else 2
theorem spg_dec : ∀ m, m < 256 → ∀ r, r < 8 → 1 ≤ r → (spg m 7 r = 0 ∧ (iv m &&& ((1 <<< ((8 - iv r) &&& 31)) - 1)) = 0) ∨ (spg m 7 r = 2 ∧ ¬ (iv m &&& ((1 <<< ((8 - iv r) &&& 31)) - 1)) = 0) := by decide +kernel
theorem spF_spg {q m : Nat} (e : M q = iv m) : ∀ (f r : Nat), 1 ≤ r → r ≤ 8 → 8 ≤ r + f → (spF M f (8 * q + r)).1 = spg m f r ∧ ((spF M f (8 * q + r)).1 = 0 → 1 ≤ r → (spF M f (8 * q + r)).2 = 8 * q + 8)
  | 0, r, h0, h1, h2 => ⟨rfl, fun _ _ => by show 8 * q + r = _; omega⟩
  | f + 1, r, h0, h1, h2 => by
    unfold spF spg
    by_cases z : r = 8
    · subst z
      rw [if_pos (by omega), if_pos rfl]
      exact ⟨rfl, fun _ _ => rfl⟩
    · rw [if_neg z]
      rw [if_neg (by omega)]
      have eb : bitAt M (8 * q + r) = btm m r := by
        unfold bitAt btm
        rw [show (8 * q + r) / 8 = q by omega, show (8 * q + r) % 8 = r by omega, e]
      rw [eb]
      by_cases y : btm m r = 0
      · rw [if_pos y, if_pos y]
        obtain ⟨a, b⟩ := spF_spg e f (r + 1) (by omega) (by omega) (by omega)
        rw [Nat.add_assoc]
        exact ⟨a, fun x _ => b x (by omega)⟩
      · rw [if_neg y, if_neg y]
        exact ⟨rfl, fun x => absurd x (show ¬ (2 : Int32) = 0 by decide)⟩
theorem rx_sp (R : Rm0 L M S g0) (x : RxR L S g0 s g) : ((spP (spRd M) s).1 = 0 → RyR L M S g0 (spP (spRd M) s).2 g) ∧ (¬ (spP (spRd M) s).1 = 0 → (spP (spRd M) s).1 = 2 ∧ DmR L M S g0 s g) := by
  obtain ⟨c, hb⟩ := x
  by_cases al : s.1 % 8 = 0
  · rw [spP_al sok_rd al]
    rw [if_pos al] at hb
    exact ⟨fun _ => ⟨c, al, Or.inl hb⟩, fun z => absurd rfl z⟩
  · rw [if_neg al] at hb
    obtain ⟨m, m1, m2⟩ := R.2.1.2.2.2.2 (s.1 / 8)
    have sp := spF_spg m2 7 (s.1 % 8) (by omega) (by omega) (by omega)
    rw [show 8 * (s.1 / 8) + s.1 % 8 = s.1 by omega] at sp
    obtain ⟨sp1, sp2⟩ := sp
    have e1 : (spP (spRd M) s).1 = spg m 7 (s.1 % 8) := sp1
    rw [e1]
    rcases spg_dec m m1 (s.1 % 8) (by omega) (by omega) with ⟨z, mk⟩ | ⟨z, mk⟩
    · refine ⟨fun _ => ?_, fun q => absurd z q⟩
      have e2 : (spF M 7 s.1).2 = 8 * (s.1 / 8) + 8 := sp2 (by rw [sp1]; exact z) (by omega)
      have e3 : (spP (spRd M) s).2 = (8 * (s.1 / 8) + 8, s.2) := by
        show ((spF M 7 s.1).2, s.2) = _
        rw [e2]
      rw [e3]
      refine ⟨⟨c.1, c.2.1, ⟨?_, ?_⟩, c.2.2.2⟩, by show (8 * (s.1 / 8) + 8) % 8 = 0; omega, Or.inr ⟨s.1 % 8, by omega, by omega, hb, by show 8 ≤ 8 * (s.1 / 8) + 8; omega, ?_⟩⟩
      · rw [c.2.2.1.1]
        show iv (bfN s.1) = iv (bfN (8 * (s.1 / 8) + 8))
        congr 1; unfold bfN; omega
      · have := c.2.2.1.2
        show 8 * (s.1 / 8) + 8 ≤ 8 * L
        omega
      · show mskZ (M ((8 * (s.1 / 8) + 8) / 8 - 1)) (s.1 % 8)
        rw [show (8 * (s.1 / 8) + 8) / 8 - 1 = s.1 / 8 by omega, m2]
        exact mk
    · refine ⟨fun q => absurd (z.symm.trans q) (by decide), fun _ => ⟨z, c, al, hb, ?_⟩⟩
      rw [m2]; exact mk
theorem Cor.set (c : Cor L S g0 s g) {j : Nat} {v : Int32} (h : j = 39 ∨ j = 43) : Cor L S g0 s (sI g 197 j v) := by
  obtain ⟨c1, c2, ⟨c3, c4⟩, ⟨c5, c6⟩, ⟨c7, c8, c9⟩, c10⟩ := c
  have e : ∀ i, ¬ i = j → hI (sI g 197 j v) 197 i = hI g 197 i := fun i hi => hI_o (by omega)
  exact ⟨c1.trans (MdF.i (by omega)), by rw [e 41 (by omega)]; exact c2, ⟨by rw [e 42 (by omega)]; exact c3, c4⟩, ⟨by rw [e 47 (by omega)]; exact c5, by rw [e 48 (by omega)]; exact c6⟩, ⟨by rw [e 46 (by omega)]; exact c7, c8, c9⟩, c10⟩
theorem FlR.wr (R : Rm0 L M S g0) (c : Cor L S g0 s g) {x : Int32} (hx : x = 2 ∨ x = 3) : FlR g0 x s.2.2.2.1 s.2.2.2.2 (sI g 197 41 x) := ⟨⟨c.1.trans (MdF.i (by omega)), ⟨hI_s, hx⟩, by rw [hI_o (by omega)]; exact c.2.2.2.1.1, by rw [hI_o (by omega)]; exact c.2.2.2.1.2⟩, R.1.1.1⟩
theorem rd_rest (R0 : Rm0 L M S g0) : RsH (RxR L S g0) (RyR L M S g0) (DmR L M S g0) (FlR g0) := by
  refine ⟨fun d s g K y k => ?_, fun d s g K y k => ?_, fun s g q => ?_⟩
  · obtain ⟨c, al, hb⟩ := y
    have R := R0.fr c.1
    have Mm := R.1.1.1
    have l120 := R.2.1.2.1
    have fin : ∀ g', Cor L S g0 s g' → Mk g g' → (hS g' 197).1 = 8 → Wp (d + 1) m_Mo_rest 51 [some (.ref 197)] [] g' (QV K) := fun g' c' mk o => by
      refine w_Mo_rest_51 ⟨o, ?_⟩
      rw [if_pos c'.2.1]
      rintro _ rfl
      refine k _ ⟨c'.set (Or.inr rfl), ?_⟩ ⟨⟨?_, ?_, ?_, ?_⟩, ?_⟩
      · rw [if_pos al, hI_s]
      · rw [hI_ne (by omega)]; exact mk.1.1
      · rw [hI_ne (by omega)]; exact mk.1.2.1
      · rw [hI_ne (by omega)]; exact mk.1.2.2.1
      · exact mk.1.2.2.2
      · rw [hI_o (by omega)]; exact mk.2
    have f0 := fin g c ⟨⟨rfl, rfl, rfl, rfl⟩, rfl⟩ Mm.o
    refine w_Mo_rest ⟨Mm.o, ?_⟩
    rcases hb with hb | ⟨r, r1, r2, hb, b8, mz⟩
    · rw [hb, if_neg (by decide)]; exact f0
    · rw [hb, if_pos (show iv r < 8 from (iv_lt (a := r) (b := 8) (by omega) (by omega)).mpr r2), R.2.2, if_pos rfl, c.2.2.1.1, Mm.r6, Mm.s200, iv1, iv_sub (by unfold bfN; omega)]
      have hp : bfN s.1 - 1 < L := by have := c.2.2.1.2; unfold bfN; omega
      refine ⟨rfl, ainr_iv (by omega) (by omega), ?_⟩
      rw [iv_clamp (by omega), R.2.1.2.2.1 _ hp]
      have e : bfN s.1 - 1 = s.1 / 8 - 1 := by unfold bfN; omega
      have mz : (M (bfN s.1 - 1) &&& ((1 <<< ((8 - iv r) &&& 31)) - 1)) = 0 := by rw [e]; exact mz
      rw [show iv 1 = (1 : Int32) from rfl, if_pos mz]
      exact w_Mo_wrong (by rw [if_pos rfl]; exact f0)
  · obtain ⟨c, al, hb, mz⟩ := y
    have R := R0.fr c.1
    have Mm := R.1.1.1
    have l120 := R.2.1.2.1
    refine w_Mo_rest ⟨Mm.o, ?_⟩
    rw [hb, if_pos (show iv (s.1 % 8) < 8 from (iv_lt (a := s.1 % 8) (b := 8) (by omega) (by omega)).mpr (by omega)), R.2.2, if_pos rfl, c.2.2.1.1, Mm.r6, Mm.s200, iv1, iv_sub (by unfold bfN; omega)]
    have hp : bfN s.1 - 1 < L := by have := c.2.2.1.2; unfold bfN; omega
    refine ⟨rfl, ainr_iv (by omega) (by omega), ?_⟩
    rw [iv_clamp (by omega), R.2.1.2.2.1 _ hp]
    have e : bfN s.1 - 1 = s.1 / 8 := by unfold bfN; omega
    have mz : ¬ (M (bfN s.1 - 1) &&& ((1 <<< ((8 - iv (s.1 % 8)) &&& 31)) - 1)) = 0 := by rw [e]; exact mz
    rw [show iv 1 = (1 : Int32) from rfl, if_neg mz]
    refine w_Mo_wrong ?_
    rw [if_neg (by decide)]
    refine ⟨Mm.o, ?_⟩
    rw [if_pos c.2.1]
    rintro _ rfl
    refine w_Mo_rest_51 ⟨Mm.o, ?_⟩
    rw [hI_s, if_neg (by decide)]
    exact k _ (FlR.wr R0 c (Or.inr rfl)) (hI_o (by omega))
  · rcases q with q | q
    · exact FlR.wr R0 q.1 (Or.inr rfl)
    · exact FlR.wr R0 q.1 (Or.inr rfl)
theorem fl_h : FlH (FlR g0) := ⟨fun c p m g g' mc fl => ⟨⟨fl.1.1.trans mc.mdf, ⟨by rw [mc.2.2.1 41 (by decide)]; exact fl.1.2.1.1, fl.1.2.1.2⟩, by rw [mc.2.2.1 47 (by decide)]; exact fl.1.2.2.1, by rw [mc.2.2.1 48 (by decide)]; exact fl.1.2.2.2⟩, fl.2⟩, fun c p m g fl => by
  have M : ShM g := fl.2.same fl.1.1.1.1 fl.1.1.1.2.2.1
  exact ⟨M.o, fl.1.2.1.1, by rcases fl.1.2.1.2 with z | z <;> rw [z] <;> decide, M⟩⟩
end RDM
