/-! what a pass of either kind leaves between the calls -/
section PFR
variable {d n db cb : Nat} {h h' h'' : Hp}
def PF (cb : Nat) (h h' : Hp) : Prop := Lo h h' ∧ (∀ a, a ≤ 199 → ¬ a = 2 → ¬ a = 5 → ¬ a = 6 → ¬ a = 7 → ¬ a = 9 → ¬ a = 10 → ¬ a = 11 → ¬ a = 197 → hI h' a = hI h a) ∧ hI h' 2 7 = hI h 2 7 ∧ (∀ j, j = 2 ∨ j = 4 ∨ j = 5 → hI h' 197 j = hI h 197 j) ∧ (∀ a j, cb + 2 ≤ a → a < cb + 92 → ¬ j = 15 → hL h' a j = hL h a j)
theorem PF.trans (a : PF cb h h') (b : PF cb h' h'') : PF cb h h'' := by
  obtain ⟨a1, a2, a3, a4, a5⟩ := a
  obtain ⟨b1, b2, b3, b4, b5⟩ := b
  exact ⟨a1.trans b1, fun a q1 q2 q3 q4 q5 q6 q7 q8 q9 => (b2 a q1 q2 q3 q4 q5 q6 q7 q8 q9).trans (a2 a q1 q2 q3 q4 q5 q6 q7 q8 q9), b3.trans a3, fun j hj => (b4 j hj).trans (a4 j hj), fun a j q1 q2 q3 => (b5 a j q1 q2 q3).trans (a5 a j q1 q2 q3)⟩
theorem PF.inv (I : Inv n db cb h) (F : PF cb h h') (hn : hN h ≤ hN h' ∧ hN h' ≤ hN h + 4 ∧ hU h' ≤ hU h + 60) (hm : ∃ t, Msg h' t) (hv : ∃ t, Vls h' t) (hb : ∃ t, Byt h' 9 10 t 120) (hl : ∃ t, Lng h' 11 12 t 160) (hs : hI h' 2 8 = hI h' 197 10 ∧ hI h' 2 9 = hI h' 197 11) : Mid h h' ∧ Inv (n + 1) db cb h' := by
  have hd := I.dd
  obtain ⟨f1, f2, f3, f4, f5⟩ := F
  obtain ⟨t, T⟩ := I.2.2.1.1
  have e : ∀ a, a = 1 ∨ a = 3 ∨ a = 4 ∨ a = 198 ∨ a = 199 ∨ (cb ≤ a ∧ a < cb + 92) → hI h' a = hI h a := fun a ha => f2 a (by omega) (by omega) (by omega) (by omega) (by omega) (by omega) (by omega) (by omega) (by omega)
  refine ⟨⟨(f1 1 (by decide)).2, e 1 (by omega)⟩, I.keep f1 hn ⟨t, T.mono f1 (by rw [e 3 (by omega)]) (e 4 (by omega)) (f4 2 (by omega)) (e 198 (by omega))⟩ hm hv hb hl ⟨⟨by rw [f3, f4 5 (by omega)]; exact I.2.2.2.1.1.1, hs.1, hs.2⟩, by rw [f3]; exact I.2.2.2.1.2⟩ fun q => (I.2.2.2.2 (by rw [← f3]; exact q)).mono (e 199 (by omega)) (f4 4 (by omega)) (by rw [e cb (by omega)]) fun k hk => ⟨e _ (by omega), (f1 _ (by omega)).1, fun j hj => f5 _ j (by omega) (by omega) hj⟩⟩
/-- what the Model's pass may change -/
def MoF (h h' : Hp) : Prop := (hR h' = hR h ∧ hS h' = hS h ∧ hN h' = hN h ∧ hU h' = hU h) ∧ (∀ a, a ≤ 201 → ¬ a = 197 → hI h' a = hI h a) ∧ (∀ j, j = 0 ∨ j = 2 ∨ j = 4 ∨ j = 5 ∨ j = 7 ∨ j = 9 ∨ j = 10 ∨ j = 11 → hI h' 197 j = hI h 197 j) ∧ (∀ a, a ≤ 216 ∨ a = 229 → hL h' a = hL h a)
theorem MoF.refl (h : Hp) : MoF h h := ⟨⟨rfl, rfl, rfl, rfl⟩, fun _ _ _ => rfl, fun _ _ => rfl, fun _ _ => rfl⟩
theorem MoF.trans (a : MoF h h') (b : MoF h' h'') : MoF h h'' := by
  obtain ⟨⟨a1, a2, a3, a4⟩, a6, a7, a8⟩ := a
  obtain ⟨⟨b1, b2, b3, b4⟩, b6, b7, b8⟩ := b
  exact ⟨⟨b1.trans a1, b2.trans a2, b3.trans a3, b4.trans a4⟩, fun x q1 q2 => (b6 x q1 q2).trans (a6 x q1 q2), fun j hj => (b7 j hj).trans (a7 j hj), fun x hx => (b8 x hx).trans (a8 x hx)⟩
theorem MoF.mfr (f : MFr h h') : MoF h h' := ⟨⟨f.1.2.1, f.1.2.2.2.1, f.1.2.2.2.2.1, f.1.2.2.2.2.2⟩, fun a q1 q2 => f.2.1 a q2 (by omega), fun j hj => f.2.2 j (by omega) (by omega), fun a _ => by rw [f.1.1]⟩
theorem MoF.msf (f : MSf h h') : MoF h h' := ⟨⟨f.1.1, f.1.2.2.1, f.1.2.2.2.1, f.1.2.2.2.2⟩, fun a q1 q2 => f.2.1 a (by omega), fun j hj => by rw [f.2.1 197 (by decide)], fun a ha => f.2.2 a (by omega)⟩
theorem MoF.mdf (f : MdF h h') : MoF h h' := ⟨⟨f.1.1, f.1.2.2.1, f.1.2.2.2.1, f.1.2.2.2.2⟩, fun a q1 q2 => f.2.1 a (by omega) (by omega) (by omega) (by omega) (by omega), fun j hj => f.2.2.1 j (by omega) (by omega) (by omega) (by omega) (by omega) (by omega) (by omega), fun a ha => f.2.2.2 a (by omega) (by omega) (by omega)⟩
theorem MoF.s7 {j : Nat} {v : Int32} (hj : 39 ≤ j) : MoF h (sI h 197 j v) := ⟨⟨rfl, rfl, rfl, rfl⟩, fun a _ q => hI_ne q, fun i hi => hI_o (by omega), fun _ _ => rfl⟩
theorem MoF.pf (f : MoF h h') (hc : cb + 92 ≤ 197) : PF cb h h' := ⟨fun c _ => ⟨by rw [f.1.1], by rw [f.1.2.1]⟩, fun a q1 _ _ _ _ _ _ _ q => f.2.1 a (by omega) q, by rw [f.2.1 2 (by decide) (by decide)], fun j hj => f.2.2.1 j (by omega), fun a j q1 q2 _ => by rw [f.2.2.2 a (by omega)]⟩
/-- with spot and name -/
def MoG (h h' : Hp) : Prop := (hR h' = hR h ∧ hS h' = hS h ∧ hN h' = hN h ∧ hU h' = hU h) ∧ (∀ a, a ≤ 201 → ¬ a = 197 → hI h' a = hI h a) ∧ (∀ j, j = 2 ∨ j = 4 ∨ j = 5 ∨ j = 7 ∨ j = 9 → hI h' 197 j = hI h 197 j) ∧ (∀ a, a ≤ 216 ∨ a = 229 → hL h' a = hL h a)
theorem MoF.g (f : MoF h h') : MoG h h' := ⟨f.1, f.2.1, fun j hj => f.2.2.1 j (by omega), f.2.2.2⟩
theorem MoG.trans (a : MoG h h') (b : MoG h' h'') : MoG h h'' := by
  obtain ⟨⟨a1, a2, a3, a4⟩, a6, a7, a8⟩ := a
  obtain ⟨⟨b1, b2, b3, b4⟩, b6, b7, b8⟩ := b
  exact ⟨⟨b1.trans a1, b2.trans a2, b3.trans a3, b4.trans a4⟩, fun x q1 q2 => (b6 x q1 q2).trans (a6 x q1 q2), fun j hj => (b7 j hj).trans (a7 j hj), fun x hx => (b8 x hx).trans (a8 x hx)⟩
theorem MoG.s7 {j : Nat} {v : Int32} (hj : j = 0 ∨ j = 10 ∨ j = 11 ∨ 39 ≤ j) : MoG h (sI h 197 j v) := ⟨⟨rfl, rfl, rfl, rfl⟩, fun a _ q => hI_ne q, fun i hi => hI_o (by omega), fun _ _ => rfl⟩
theorem MoG.pf (f : MoG h h') (hc : cb + 92 ≤ 197) : PF cb h h' := ⟨fun c _ => ⟨by rw [f.1.1], by rw [f.1.2.1]⟩, fun a q1 _ _ _ _ _ _ _ q => f.2.1 a (by omega) q, by rw [f.2.1 2 (by decide) (by decide)], fun j hj => f.2.2.1 j (by omega), fun a j q1 q2 _ => by rw [f.2.2.2 a (by omega)]⟩
/-- what the class's part leaves to the Model -/
def RE (cb : Nat) (h h1 : Hp) : Prop := PF cb h h1 ∧ ((∃ t, Byt h1 9 10 t 120) ∧ (∃ t, Lng h1 11 12 t 160)) ∧ (∀ a, 197 ≤ a → a < 229 → hI h1 a = hI h a ∧ hL h1 a = hL h a)
def Bn (h h1 : Hp) : Prop := hN h ≤ hN h1 ∧ hN h1 ≤ hN h + 4 ∧ hU h1 ≤ hU h + 60
theorem Byt.cp {a r t cap : Nat} (B : Byt h a r t cap) (L : Lo h h') (ha : a < 231) (hr : r < 231) (e : hI h' a = hI h a) : Byt h' a r t cap := B.lo L ha hr (by rw [e])
theorem Lng.cp {a r t cap : Nat} (B : Lng h a r t cap) (L : Lo h h') (ha : a < 231) (hr : r < 231) (e : hI h' a = hI h a) : Lng h' a r t cap := B.lo L ha hr (by rw [e])
theorem PF.sp {j : Nat} {v : Int32} (hj : ¬ j = 7) : PF cb h (sI h 2 j v) := ⟨Lo.sI, fun a _ q _ _ _ _ _ _ _ => hI_ne q, hI_o (by omega), fun j hj => hI_o (by omega), fun _ _ _ _ _ => rfl⟩
theorem PF.nw {c l k : Nat} (hn : 231 ≤ hN h) (hc : cb + 92 ≤ 197) : PF cb h (hNew h c l k) := ⟨Lo.nw hn, fun a _ _ _ _ _ _ _ _ _ => hI_nwne (by omega), by rw [hI_nwne (by omega)], fun j hj => by rw [hI_nwne (by omega)], fun a j q1 q2 _ => by rw [hL_nwne (by omega)]⟩
theorem RE.sp {h1 : Hp} (E : RE cb h h1) {j : Nat} {v : Int32} (hj : ¬ j = 7) : RE cb h (sI h1 2 j v) := ⟨E.1.trans (PF.sp hj), ⟨E.2.1.1.elim fun t B => ⟨t, B.cp Lo.sI (by decide) (by decide) (hI_ne (by decide))⟩, E.2.1.2.elim fun t B => ⟨t, B.cp Lo.sI (by decide) (by decide) (hI_ne (by decide))⟩⟩, fun a q1 q2 => ⟨by rw [hI_ne (by omega)]; exact (E.2.2 a q1 q2).1, (E.2.2 a q1 q2).2⟩⟩
theorem RE.nw {h1 : Hp} (E : RE cb h h1) {c l k : Nat} (hn : 231 ≤ hN h1) (hc : cb + 92 ≤ 197) : RE cb h (hNew h1 c l k) := ⟨E.1.trans (PF.nw hn hc), ⟨E.2.1.1.elim fun t B => ⟨t, B.cp (Lo.nw hn) (by decide) (by decide) (hI_nwne (by omega))⟩, E.2.1.2.elim fun t B => ⟨t, B.cp (Lo.nw hn) (by decide) (by decide) (hI_nwne (by omega))⟩⟩, fun a q1 q2 => ⟨by rw [hI_nwne (by omega)]; exact (E.2.2 a q1 q2).1, by rw [hL_nwne (by omega)]; exact (E.2.2 a q1 q2).2⟩⟩
theorem RE.msg {h1 : Hp} {t : Nat} (E : RE cb h h1) (e5 : hI h1 5 = hI h 5) (e6 : hI h1 6 = hI h 6) (M : Msg h t) : Msg h1 t := M.mono E.1.1 (by rw [e5]) e6 (by rw [(E.2.2 197 (by decide) (by decide)).1]) (E.2.2 200 (by decide) (by decide)).1
theorem RE.vls {h1 : Hp} {t : Nat} (E : RE cb h h1) (e7 : hI h1 7 = hI h 7) (e8 : hL h1 8 = hL h 8) (M : Vls h t) : Vls h1 t := M.mono E.1.1 (by rw [e7]) e8 (by rw [(E.2.2 197 (by decide) (by decide)).1]) (E.2.2 201 (by decide) (by decide)).2
theorem RE.inv {h1 h2 : Hp} (I : Inv n db cb h) (E : RE cb h h1) (hb : Bn h h1) (f : MoG h1 h2) (hm : ∃ t, Msg h1 t) (hv : ∃ t, Vls h1 t) (hs : hI h1 2 8 = hI h2 197 10 ∧ hI h1 2 9 = hI h2 197 11) : Mid h h2 ∧ Inv (n + 1) db cb h2 := by
  have hd := I.dd
  have p := f.pf (cb := cb) hd.2.1
  refine PF.inv I (E.1.trans p) ⟨by rw [f.1.2.2.1]; exact hb.1, by rw [f.1.2.2.1]; exact hb.2.1, by rw [f.1.2.2.2]; exact hb.2.2⟩ (hm.elim fun t T => ⟨t, T.mono p.1 (by rw [f.2.1 5 (by decide) (by decide)]) (f.2.1 6 (by decide) (by decide)) (f.2.2.1 7 (by omega)) (f.2.1 200 (by decide) (by decide))⟩) (hv.elim fun t T => ⟨t, T.mono p.1 (by rw [f.2.1 7 (by decide) (by decide)]) (f.2.2.2 8 (by omega)) (f.2.2.1 9 (by omega)) (f.2.2.2 201 (by omega))⟩) (E.2.1.1.elim fun t B => ⟨t, B.cp p.1 (by decide) (by decide) (f.2.1 9 (by decide) (by decide))⟩) (E.2.1.2.elim fun t B => ⟨t, B.cp p.1 (by decide) (by decide) (f.2.1 11 (by decide) (by decide))⟩) ?_
  rw [f.2.1 2 (by decide) (by decide)]; exact hs
theorem RE.shM {h1 : Hp} (I : Inv n db cb h) (E : RE cb h h1) : ShM h1 := I.M.mono fun c _ hc => E.1.1 c (by omega)
theorem RE.mid {h1 : Hp} (E : RE cb h h1) : Mid h h1 := ⟨(E.1.1 1 (by decide)).2, E.1.2.1 1 (by decide) (by decide) (by decide) (by decide) (by decide) (by decide) (by decide) (by decide) (by decide)⟩
theorem RE.fail {h1 g : Hp} {e : Int32} (I : Inv n db cb h) (E : RE cb h h1) (hb : Bn h h1) (f : MoG h1 g) (hm : ∃ t, Msg h1 t) (hv : ∃ t, Vls h1 t) (he : ¬ e = 0) (hs : hI h1 2 8 = hI g 197 10 ∧ hI h1 2 9 = hI g 197 11) : Ca d m_Mo_fail [.ref 197, .int e] g (QI fun b h2 => Res n h e b.toInt64 h2) := by
  refine w_Mo_fail ⟨((E.shM I).same f.1.1 f.1.2.1).o, ?_⟩
  rintro _ rfl
  obtain ⟨r1, r2⟩ := E.inv I hb (f.trans (MoG.s7 (Or.inl rfl))) hm hv (h2 := sI g 197 0 e) ⟨by rw [hI_o (by omega)]; exact hs.1, by rw [hI_o (by omega)]; exact hs.2⟩
  exact ⟨r1, ⟨db, cb, r2⟩, hI_s, fun q => absurd q he⟩
/-- where the Model begins -/
theorem RE.mo {h1 : Hp} {t : Nat → Int32} {N : Nat} (I : Inv n db cb h) (E : RE cb h h1) (c1 : hI h 2 7 = 1) (Sr : Src h 1 t N) : ShM (sI h1 197 0 0) ∧ Src (sI h1 197 0 0) 1 t N ∧ sF0 (sI h1 197 0 0) = sF0 h ∧ hI (sI h1 197 0 0) 197 5 = 1 := by
  have e7 : ∀ j, hI h1 197 j = hI h 197 j := fun j => by rw [(E.2.2 197 (by decide) (by decide)).1]
  refine ⟨(E.shM I : ShM h1), ?_, sF0_eq fun k j hj => by rw [hI_ne (by omega), (E.2.2 _ (by omega) (by omega)).1], by rw [hI_o (by omega), e7, ← I.2.2.2.1.1.1]; exact c1⟩
  obtain ⟨s1, s2, s3⟩ := Sr
  refine ⟨s1, s2, Or.inr ⟨rfl, ?_, fun i hi => ?_⟩⟩
  · rw [hI_o (by omega), e7]
    rcases s3 with ⟨q, -⟩ | ⟨-, q, -⟩
    · exact absurd q (by decide)
    · exact q
  · rw [hI_ne (by decide), (E.2.2 199 (by decide) (by decide)).1]
    rcases s3 with ⟨q, -⟩ | ⟨-, -, q⟩
    · exact absurd q (by decide)
    · exact q i hi
theorem RE.vl {h1 : Hp} (E : RE cb h h1) (hd : 13 ≤ cb ∧ cb + 92 ≤ 197) {v : Int32} {k : Nat} {X : Int64} : RE cb h (sL (cL (sI h1 7 1 v) 12 0 8 0 k) 229 0 X) := by
  have lo : Lo h1 (sL (cL (sI h1 7 1 v) 12 0 8 0 k) 229 0 X) := fun _ _ => ⟨rfl, rfl⟩
  have eI : ∀ a, ¬ a = 7 → hI (sL (cL (sI h1 7 1 v) 12 0 8 0 k) 229 0 X) a = hI h1 a := fun a q => by rw [hI_sL, hI_cL, hI_ne q]
  have eL : ∀ a, ¬ a = 8 → ¬ a = 229 → hL (sL (cL (sI h1 7 1 v) 12 0 8 0 k) 229 0 X) a = hL h1 a := fun a q1 q2 => by
    rw [hL_ne q2]; exact (Sm.cL q1).2.1
  exact ⟨E.1.trans ⟨lo, fun a _ _ _ _ q _ _ _ _ => eI a q, by rw [eI 2 (by decide)], fun j _ => by rw [eI 197 (by decide)], fun a j q1 q2 _ => by rw [eL a (by omega) (by omega)]⟩, ⟨E.2.1.1.elim fun t B => ⟨t, B.cp lo (by decide) (by decide) (eI 9 (by decide))⟩, E.2.1.2.elim fun t B => ⟨t, B.cp lo (by decide) (by decide) (eI 11 (by decide))⟩⟩, fun a q1 q2 => ⟨by rw [eI a (by omega)]; exact (E.2.2 a q1 q2).1, by rw [eL a (by omega) (by omega)]; exact (E.2.2 a q1 q2).2⟩⟩
/-- the Model's pass, up to its first type -/
theorem m_pass {K : Hp → Prop} {g : Hp} {t : Nat → Int32} {N : Nat} {S : Tb} {x : Int32} (hx : x = 0 ∨ x = 1) (M : ShM g) (Sr : Src g 1 t N) (e : pT t 5 0 0 (-1) (-1) (-1) (0, sF0 g, fun _ => 0) = (N, some S)) (W : TW S) (s : Snd_ S)
    (k : ∀ g0, MoF g g0 → TabM g0 S → Sa g0 S S.1 → hI g0 197 40 = x → hI g0 197 41 = 0 → hI g0 197 42 = 0 → hI g0 197 43 = 8 → hI g0 197 46 = 0 → hI g0 197 39 = 0 → hI g0 197 47 = -1 ∧ hI g0 197 48 = -1 → Ca (d + 15) m_Mo_enter [.ref 197, .int (iv 0)] g0 (QV (LPm d (some (.int x)) K))) : Ca (d + 16) m_Mo_pass [.ref 197, .int x] g (QV K) := by
  refine w_Mo_pass ⟨M.o, c_restore (d := d + 10) M Sr e W s fun g' ms g1 f1 f2 => ?_⟩
  refine ⟨ms.1.1.o, hx, ?_⟩
  have f : MoF g g' := (MoF.mfr f1).trans (MoF.msf f2)
  rintro _ rfl _ rfl _ rfl _ rfl _ rfl _ rfl _ rfl _ rfl
  have o : ∀ {g : Hp} {j i : Nat} {v : Int32}, ¬ i = j → hI (sI g 197 j v) 197 i = hI g 197 i := fun q => hI_o (by omega)
  refine k _ (((((((((f.trans (MoF.s7 (by omega))).trans (MoF.s7 (by omega))).trans (MoF.s7 (by omega))).trans (MoF.s7 (by omega))).trans (MoF.s7 (by omega))).trans (MoF.s7 (by omega))).trans (MoF.s7 (by omega))).trans (MoF.s7 (by omega)))) ?_ ?_ ?_ ?_ ?_ ?_ ?_ ?_ ⟨?_, ?_⟩
  · refine ms.1.mono rfl rfl ?_ fun a q1 q2 => ?_
    · rw [o (by decide), o (by decide), o (by decide), o (by decide), o (by decide), o (by decide), o (by decide), o (by decide)]
    · rw [hI_ne (by omega), hI_ne (by omega), hI_ne (by omega), hI_ne (by omega), hI_ne (by omega), hI_ne (by omega), hI_ne (by omega), hI_ne (by omega)]
  · refine ⟨ms.2.1.1, fun k hk => ?_⟩
    rw [hI_ne (by omega), hI_ne (by omega), hI_ne (by omega), hI_ne (by omega), hI_ne (by omega), hI_ne (by omega), hI_ne (by omega), hI_ne (by omega)]
    exact ms.2.1.2 k hk
  · rw [o (by decide), o (by decide), o (by decide), o (by decide), o (by decide), o (by decide), o (by decide), hI_s]
  · rw [o (by decide), o (by decide), o (by decide), o (by decide), o (by decide), o (by decide), hI_s]
  · rw [o (by decide), o (by decide), o (by decide), o (by decide), o (by decide), hI_s]
  · rw [o (by decide), o (by decide), o (by decide), o (by decide), hI_s]
  · rw [o (by decide), o (by decide), o (by decide), hI_s]
  · rw [o (by decide), o (by decide), hI_s]
  · rw [o (by decide), hI_s]
  · exact hI_s
theorem c_whole {K : Nat → Hp → Prop} {b : Nat} {S : Tb} (F : Fmt h b) (C : CpT h b S) (u : 1 ≤ S.1) (k : K (b + 2 + 0) h) : Ca d m_Fo_whole [.ref b] h (QR K) := by
  have f4 := F.2.2.2 0 (by decide)
  have u90 := C.1.1.2
  refine w_Fo_whole ⟨F.1, ?_⟩
  rw [C.1.1.1, if_pos (show 0 < iv S.1 from (iv_lt (a := 0) (by decide) (by omega)).mpr u), F.2.1, F.2.2.1]
  refine ⟨rfl, by decide, ?_⟩
  rw [show (0 : Int32).toNatClampNeg = 0 by decide, f4.1]
  exact k
end PFR
