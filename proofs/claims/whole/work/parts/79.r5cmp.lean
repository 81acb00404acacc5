theorem Fmt.mono' {h h' : Hp} {b : Nat} (F : Fmt h b) (hs : hS h' = hS h) (hr : hR h' = hR h) : Fmt h' b := by
  obtain ⟨f1, f2, f3, f4⟩ := F
  exact ⟨by rw [hs]; exact f1, by rw [hr]; exact f2, by rw [hs]; exact f3, fun k hk => ⟨by rw [hr]; exact (f4 k hk).1, by rw [hs]; exact (f4 k hk).2⟩⟩
section CMP5
variable {d n db cb : Nat} {h : Hp}
/-- what the Model's compile and restore change -/
def MFm (h h' : Hp) : Prop := (hR h' = hR h ∧ hD h' = hD h ∧ hS h' = hS h ∧ hN h' = hN h ∧ hU h' = hU h) ∧ (∀ a, ¬ a = 197 → ¬ a = 199 → ¬ (202 ≤ a ∧ a ≤ 216) → ¬ a = 221 → hI h' a = hI h a) ∧ (∀ j, ¬ j = 0 → ¬ j = 4 → ¬ j = 5 → ¬ j = 23 → ¬ j = 28 → hI h' 197 j = hI h 197 j) ∧ (∀ a, ¬ (217 ≤ a ∧ a ≤ 220) → hL h' a = hL h a)
theorem MFm.refl (h : Hp) : MFm h h := ⟨⟨rfl, rfl, rfl, rfl, rfl⟩, fun _ _ _ _ _ => rfl, fun _ _ _ _ _ _ => rfl, fun _ _ => rfl⟩
theorem MFm.trans {h h' h'' : Hp} (x : MFm h h') (y : MFm h' h'') : MFm h h'' := by
  obtain ⟨⟨x1, x2, x3, x4, x5⟩, x6, x7, x8⟩ := x
  obtain ⟨⟨y1, y2, y3, y4, y5⟩, y6, y7, y8⟩ := y
  exact ⟨⟨y1.trans x1, y2.trans x2, y3.trans x3, y4.trans x4, y5.trans x5⟩, fun a p q r s => (y6 a p q r s).trans (x6 a p q r s), fun j p q r s t => (y7 j p q r s t).trans (x7 j p q r s t), fun a p => (y8 a p).trans (x8 a p)⟩
theorem MFr.mfm {h h' : Hp} (x : MFr h h') : MFm h h' := ⟨⟨x.1.2.1, x.1.2.2.1, x.1.2.2.2.1, x.1.2.2.2.2.1, x.1.2.2.2.2.2⟩, fun a p _ r _ => x.2.1 a p r, fun j _ _ _ s t => x.2.2 j s t, fun a _ => by rw [x.1.1]⟩
theorem MSf.mfm {h h' : Hp} (x : MSf h h') : MFm h h' := ⟨x.1, fun a _ _ _ s => x.2.1 a s, fun j _ _ _ _ _ => by rw [x.2.1 197 (by decide)], fun a p => x.2.2 a p⟩
theorem MFm.s7 {h : Hp} {j : Nat} {v : Int32} (hj : j = 0 ∨ j = 4 ∨ j = 5) : MFm h (sI h 197 j v) := ⟨⟨rfl, rfl, rfl, rfl, rfl⟩, fun a p _ _ _ => hI_ne p, fun i p q r _ _ => hI_o (by omega), fun _ _ => rfl⟩
theorem MFm.s99 {h : Hp} {j : Nat} {v : Int32} : MFm h (sI h 199 j v) := ⟨⟨rfl, rfl, rfl, rfl, rfl⟩, fun a _ q _ _ => hI_ne q, fun i _ _ _ _ _ => hI_o (by omega), fun _ _ => rfl⟩
theorem CFm.shM {h1 : Hp} (I : Inv n db cb h) (C : CFm db h h1) : ShM h1 := I.M.mono fun c a b => ⟨(C.2.2.1 c (by omega) (by have := I.dd; omega) (by omega) (by omega)).2.2.1, C.2.1 c (by omega)⟩
theorem CFm.mid {h1 : Hp} (I : Inv n db cb h) (C : CFm db h h1) : Mid h h1 := by
  have hd := I.dd
  exact ⟨C.2.1 1 (by decide), (C.2.2.1 1 (by decide) (by omega) (by decide) (by decide)).1⟩
theorem cmp_inv {h1 h2 : Hp} {db' cb' : Nat} (I : Inv n db cb h) (C : CFm db h h1) (M : MFm h1 h2) (e5 : hR h1 2 5 = db') (e6 : hR h1 2 6 = cb') (hdc : (db' = db ∧ cb' = cb) ∨ (db' = cb ∧ cb' = db)) (hf : hI h2 197 5 = hI h1 2 7) (hf2 : hI h1 2 7 = 0 ∨ hI h1 2 7 = 1) (hc : hI h1 2 7 = 1 → Comp h2 cb') : Mid h h2 ∧ Inv (n + 1) db' cb' h2 := by
  have hd := I.dd
  have mh1 := C.shM I
  obtain ⟨c1, c2, c3, c4, c5, c6, c7⟩ := C
  obtain ⟨⟨m1, m2, m3, m4, m5⟩, m6, m7, m8⟩ := M
  have lo : ∀ a, a < 13 → ¬ a = 2 → hI h2 a = hI h a ∧ hL h2 a = hL h a ∧ hR h2 a = hR h a := fun a ha h2' => by
    have := c3 a (by omega) (by omega) h2' (by omega)
    exact ⟨by rw [m6 a (by omega) (by omega) (by omega) (by omega)]; exact this.1, by rw [m8 a (by omega)]; exact this.2.1, by rw [m1]; exact this.2.2.1⟩
  obtain ⟨⟨s1, s2, s3, s4⟩, s5, s6, s7⟩ := I.2.1
  have e27 : hI h2 2 7 = hI h1 2 7 := by rw [m6 2 (by decide) (by decide) (by decide) (by decide)]
  have fdb : Fmt h2 db := c6.mono' (by rw [m3]) (by rw [m1])
  have fcb : Fmt h2 cb := by
    obtain ⟨f1, f2, f3, f4⟩ := s3.2
    have q : ∀ a, cb ≤ a → a < cb + 2 → hR h2 a = hR h a := fun a x y => by rw [m1]; exact (c3 a (by omega) (by omega) (by omega) (by omega)).2.2.1
    exact ⟨by rw [m3, c2 cb (by omega)]; exact f1, by rw [q cb (by omega) (by omega)]; exact f2, by rw [m3, c2 _ (by omega)]; exact f3, fun k hk => ⟨by rw [q (cb + 1) (by omega) (by omega)]; exact (f4 k hk).1, by rw [m3, c2 _ (by omega)]; exact (f4 k hk).2⟩⟩
  have sh : Shp h2 db' cb' := by
    refine ⟨⟨by rw [m3, c2 2 (by decide)]; exact s1, ⟨?_, ?_, ?_, ?_, ?_, by rw [m1]; exact e5, by rw [m1]; exact e6⟩, ?_, ?_⟩, mh1.same m1 m3, by rw [m3, c2 229 (by decide)]; exact s6, by rw [m3, c2 230 (by decide)]; exact s7⟩
    · rw [m1, c5 0 (by decide) (by decide)]; exact s2.1
    · rw [m1, c5 1 (by decide) (by decide)]; exact s2.2.1
    · rw [m1, c5 2 (by decide) (by decide)]; exact s2.2.2.1
    · rw [m1, c5 3 (by decide) (by decide)]; exact s2.2.2.2.1
    · rw [m1, c5 4 (by decide) (by decide)]; exact s2.2.2.2.2.1
    · rcases hdc with ⟨rfl, rfl⟩ | ⟨rfl, rfl⟩
      · exact ⟨fdb, fcb⟩
      · exact ⟨fcb, fdb⟩
    · rcases hdc with ⟨rfl, rfl⟩ | ⟨rfl, rfl⟩ <;> omega
  have F := I.2.2.2.1
  refine ⟨⟨by rw [m3]; exact c2 1 (by decide), (lo 1 (by decide) (by decide)).1⟩, I.gen ⟨by rw [m4]; exact c1.1, by rw [m4]; exact c1.2.1, by rw [m5]; exact c1.2.2⟩ sh (fun a ha => by rw [m3]; exact c2 a (by omega)) (fun a ha h2' => (lo a ha h2').2.2) (fun a ha h2' => (lo a ha h2').1) (fun a ha => ?_) (fun j hj => ?_) ⟨?_, ?_, ?_⟩ ⟨⟨by rw [e27, hf], ?_, ?_⟩, by rw [e27]; exact hf2⟩ (fun q => hc (by rw [← e27]; exact q))⟩
  · by_cases z : a = 2
    · rw [z, m8 2 (by decide), c7]
    · exact (lo a ha z).2.1
  · rw [m7 j (by omega) (by omega) (by omega) (by omega) (by omega)]; rw [(c3 197 (by decide) (by omega) (by decide) (by decide)).1]
  · rw [m6 198 (by decide) (by decide) (by decide) (by decide)]; exact (c3 198 (by decide) (by omega) (by decide) (by decide)).1
  · rw [m6 200 (by decide) (by decide) (by decide) (by decide)]; exact (c3 200 (by decide) (by omega) (by decide) (by decide)).1
  · rw [m8 201 (by decide)]; exact (c3 201 (by decide) (by omega) (by decide) (by decide)).2.1
  · rw [m6 2 (by decide) (by decide) (by decide) (by decide), c4 8 (by decide), m7 10 (by decide) (by decide) (by decide) (by decide) (by decide), (c3 197 (by decide) (by omega) (by decide) (by decide)).1]; exact F.1.2.1
  · rw [m6 2 (by decide) (by decide) (by decide) (by decide), c4 9 (by decide), m7 11 (by decide) (by decide) (by decide) (by decide) (by decide), (c3 197 (by decide) (by omega) (by decide) (by decide)).1]; exact F.1.2.2
/-- the formed text's copy -/
theorem cpy_54 {K : Int32 → Hp → Prop} {h0 : Hp} {N : Nat} {t : Nat → Int32} (hN : N ≤ 90) : ∀ (m i : Nat) (h : Hp), i + m = N → ShM h → MFm h0 h → hI h 197 2 = iv N → (∀ j, j < N → hI h 198 j = t j) → (∀ j, j < i → hI h 199 j = t j) →
    (∀ h', ShM h' → MFm h0 h' → (∀ j, j < N → hI h' 199 j = t j) → hI h' 197 = hI h 197 → hL h' = hL h → K ((hL h 220 0).toInt32) h') → Wp (d + 1) m_Mo_compile 54 [some (.ref 197), some (.int (iv i))] [] h (QI K)
  | 0, i, h, hm, M, f, e2, s, c, k => by
    refine w_Mo_compile_54 ⟨M.o, ?_⟩
    rw [e2, if_neg (fun q => by have := (iv_lt (by omega) (by omega)).mp q; omega)]
    rw [M.r32, M.s220]
    refine ⟨rfl, by decide, ?_⟩
    rw [show (0 : Int32).toNatClampNeg = 0 by decide]
    exact k h M f (fun j hj => c j (by omega)) rfl rfl
  | m + 1, i, h, hm, M, f, e2, s, c, k => by
    refine w_Mo_compile_54 ⟨M.o, ?_⟩
    rw [e2, if_pos ((iv_lt (by omega) (by omega)).mpr (by omega)), M.r1, M.r3, M.s198, M.s199, iv_clamp (by omega), s i (by omega)]
    refine ⟨rfl, ainr_iv (by omega) (by omega), rfl, by decide, ainr_iv (by omega) (by omega), ?_⟩
    rintro _ rfl _ rfl
    rw [iv1, iv_add]
    refine cpy_54 (t := t) hN m (i + 1) (sI h 199 i (t i)) (by omega) M (f.trans MFm.s99) (by rw [hI_o (by omega)]; exact e2) (fun j hj => by rw [hI_ne (by decide)]; exact s j hj) (fun j hj => ?_) fun h' a b c' d' e' => ?_
    · by_cases z : j = i
      · rw [z]; exact hI_s
      · rw [hI_o (by omega)]; exact c j (by omega)
    · have := k h' a b c' (by rw [d', hI_ne (by decide)]) (by rw [e']; rfl)
      exact this
theorem op_compile (I : Inv n db cb h) (hn : n ≤ 600) : Ca (d + 40) m_La_compile [.ref 2, .ref 229] h (QI fun v h1 => (Mid h h1 ∧ (hS h1 197).1 = 8) ∧ Ca (d + 40) m_Mo_compile [.ref 197] h1 (QI fun b h2 => Res n h v b.toInt64 h2)) := by
  have hd := I.dd
  obtain ⟨N, T⟩ := I.2.2.1.1
  have N90 : N ≤ 90 := T.1.2.2.2.2.2.1
  have cls := Wp.all (α := (Nat → Nat → Int32) × (Nat → Nat)) (A := fun _ => True) (fun _ _ => 0, fun _ => 0) trivial fun g _ => cls_compile (d := d) I hn T (F := g.1) (G := g.2) rfl
  refine Wp.imp cls fun r h1 q => ?_
  obtain ⟨v, rv, -⟩ := q (fun _ _ => 0, fun _ => 0) trivial
  refine ⟨v, rv, ?_⟩
  have all : ∀ F G, CEnd db cb N (pT (tx h N) 5 0 0 (-1) (-1) (-1) (0, F, G)) h v h1 := fun F G => by
    obtain ⟨v', rv', e⟩ := q (F, G) trivial
    rw [rv] at rv'
    simp only [Sum.inl.injEq, Option.some.injEq, Value.int.injEq] at rv'
    rw [rv']; exact e
  clear q cls
  have C := (all (fun _ _ => 0) (fun _ => 0)).1
  have M1 := C.shM I
  refine ⟨⟨C.mid I, M1.o⟩, w_Mo_compile ⟨M1.o, ?_⟩⟩
  rintro _ rfl _ rfl
  have a197 := C.2.2.1 197 (by decide) (by omega) (by decide) (by decide)
  have a198 := C.2.2.1 198 (by decide) (by omega) (by decide) (by decide)
  have mf1 : MFm h1 (sI (sI h1 197 0 0) 197 5 0) := (MFm.s7 (Or.inl rfl)).trans (MFm.s7 (Or.inr (Or.inr rfl)))
  have M2 : ShM (sI (sI h1 197 0 0) 197 5 0) := M1
  have src : Src (sI (sI h1 197 0 0) 197 5 0) 0 (tx h N) N := by
    obtain ⟨s1, s2, s3⟩ := T.src
    refine ⟨s1, s2, Or.inl ⟨rfl, ?_, fun i hi => ?_⟩⟩
    · rw [hI_o (by omega), hI_o (by omega), a197.1]; exact T.2.1
    · rw [hI_ne (by decide), hI_ne (by decide), a198.1]
      rcases s3 with ⟨-, -, q⟩ | ⟨q, -, -⟩
      · exact q i hi
      · exact absurd q (by decide)
  have z0 : hI (sI (sI h1 197 0 0) 197 5 0) 197 0 = 0 := by rw [hI_o (by omega)]; exact hI_s
  have z5 : hI (sI (sI h1 197 0 0) 197 5 0) 197 5 = 0 := hI_s
  generalize sI (sI h1 197 0 0) 197 5 0 = h2 at mf1 M2 src z0 z5 ⊢
  have E := all (sF0 h2) (fun _ => 0)
  -- a refusal
  have refuse : ∀ (e : Int32) h3, MFm h1 h3 → ShM h3 → hI h3 197 5 = 0 → ¬ e = 0 → v = e → Ca (d + 39) m_Mo_fail [.ref 197, .int e] h3 (QI fun b h4 => Res n h v b.toInt64 h4) := by
    intro e h3 f3 M3 e5 e0 ve
    refine w_Mo_fail ⟨M3.o, ?_⟩
    rintro _ rfl
    obtain ⟨q7, q5, q6⟩ := E.2.2.1 (by rw [ve]; exact e0)
    obtain ⟨r1, r2⟩ := cmp_inv (h2 := sI h3 197 0 e) I C (f3.trans (MFm.s7 (Or.inl rfl))) q5 q6 (Or.inl ⟨rfl, rfl⟩) (by rw [hI_o (by omega), e5, q7]) (Or.inl q7) (fun q => by rw [q7] at q; exact absurd q (by decide))
    exact ⟨r1, ⟨db, cb, r2⟩, by rw [ve]; exact hI_s, fun q => absurd (ve.symm.trans q) e0⟩
  refine c_scan (d := d + 35) M2 src (R := pT (tx h N) 5 0 0 (-1) (-1) (-1) (0, sF0 h2, fun _ => 0)) rfl (fun e jN h3 f3 => ?_) fun S' e W0 u0 h3 T3 f3 => ?_
  · rw [if_neg (fun q => by
      have := congrArg Int32.toInt q
      rw [iv_toInt (by omega)] at this
      have z : (-2 : Int32).toInt = -2 := by decide
      omega)]
    have M3 : ShM h3 := M2.same f3.1.2.1 f3.1.2.2.2.1
    refine ⟨M3.o, refuse 1 h3 (mf1.trans f3.mfm) M3 (by rw [f3.2.2 5 (by decide) (by decide)]; exact z5) (by decide) ?_⟩
    rcases E.2.1 with ⟨q, -⟩ | ⟨q, S, w, -⟩ | ⟨q, S, w, -⟩
    · exact q
    · rw [w] at e
      rcases e with e | e
      · cases e
      · exact absurd rfl e
    · rw [w] at e
      rcases e with e | e
      · cases e
      · exact absurd rfl e
  · rw [if_pos rfl]
    have W : TW S' := tw_top (sgn_tx h N) e N90
    refine ⟨T3.1.o, c_soundAll (d := d + 37) W T3 (fun ns h4 f4 => ?_) fun s h4 f4 ms => ?_⟩
    · rw [if_pos rfl]
      have M4 : ShM h4 := (T3.ms f4).1
      refine ⟨M4.o, refuse 2 h4 ((mf1.trans f3.mfm).trans f4.mfm) M4 (by rw [f4.2.1 197 (by decide), f3.2.2 5 (by decide) (by decide)]; exact z5) (by decide) ?_⟩
      rcases E.2.1 with ⟨q, q2⟩ | ⟨q, S, w, -⟩ | ⟨q, S, w, w2, w3, -⟩
      · rw [e] at q2
        rcases q2 with q2 | q2
        · cases q2
        · exact absurd rfl q2
      · exact q
      · rw [e] at w; cases w; exact absurd w3 ns
    · rw [if_neg (by decide)]
      have M4 : ShM h4 := ms.1.1
      refine ⟨M4.o, ?_⟩
      rintro _ rfl _ rfl
      have v0 : v = 0 := by
        rcases E.2.1 with ⟨q, q2⟩ | ⟨q, S, w, w2, w3⟩ | ⟨q, -⟩
        · rw [e] at q2
          rcases q2 with q2 | q2
          · cases q2
          · exact absurd rfl q2
        · rw [e] at w; cases w; exact absurd s w3
        · exact q
      obtain ⟨q7, q5, q6⟩ := E.2.2.2 v0
      have l2 : hI h4 197 2 = iv N := by
        rw [f4.2.1 197 (by decide), f3.2.2 2 (by decide) (by decide)]
        rcases src.2.2 with ⟨-, q, -⟩ | ⟨q, -, -⟩
        · exact q
        · exact absurd q (by decide)
      have s8 : ∀ j, j < N → hI h4 198 j = tx h N j := fun j hj => by
        rw [f4.2.1 198 (by decide), f3.2.1 198 (by decide) (by decide)]
        rcases src.2.2 with ⟨-, -, q⟩ | ⟨q, -, -⟩
        · exact q j hj
        · exact absurd q (by decide)
      have x2 : hI (sI h4 197 5 1) 197 2 = iv N := by rw [hI_o (by omega)]; exact l2
      rw [x2]
      have mf5 : MFm h1 (sI (sI h4 197 5 1) 197 4 (iv N)) := (((mf1.trans f3.mfm).trans f4.mfm).trans (MFm.s7 (Or.inr (Or.inr rfl)))).trans (MFm.s7 (Or.inr (Or.inl rfl)))
      have e2 : hI (sI (sI h4 197 5 1) 197 4 (iv N)) 197 2 = iv N := by rw [hI_o (by omega)]; exact x2
      refine cpy_54 (h0 := h1) (t := tx h N) N90 N 0 _ (Nat.zero_add N) M4 mf5 e2 (fun j hj => by rw [hI_ne (by decide), hI_ne (by decide)]; exact s8 j hj) (fun j hj => absurd hj (Nat.not_lt_zero _)) fun h5 M5 f5 c5 e7 eL => ?_
      have p0 : hI h5 197 0 = 0 := by rw [e7, hI_o (by omega), hI_o (by omega), f4.2.1 197 (by decide), f3.2.2 0 (by decide) (by decide)]; exact z0
      have p5 : hI h5 197 5 = 1 := by rw [e7, hI_o (by omega)]; exact hI_s
      have p4 : hI h5 197 4 = iv N := by rw [e7]; exact hI_s
      have u1 : 0 < S'.1 := W.2.1.1
      have mo : hL (sI (sI h4 197 5 1) 197 4 (iv N)) 220 0 = jv (me S' 0).2 := by
        show hL h4 220 0 = _
        have := ms.2.2 0 u1
        unfold gM at this
        exact (Prod.mk.inj this).2
      rw [mo]
      have m1000 := (s.2 0 u1).1
      have back : (jv (me S' 0).2).toInt32 = iv (me S' 0).2 := by rw [← iv_jv (by omega)]; exact Int32.toInt32_toInt64 _
      rw [back]
      have comp : Comp h5 db := by
        refine ⟨tx h N, N, ⟨ends_tx N90, fun i _ => sgn_tx h N i, Or.inr ⟨rfl, p4, c5⟩⟩, fun F G => ?_⟩
        have EF := all F G
        rcases EF.2.1 with ⟨q, -⟩ | ⟨q, -⟩ | ⟨q, S, w, w2, w3, w4, -⟩
        · rw [v0] at q; exact absurd q (by decide)
        · rw [v0] at q; exact absurd q (by decide)
        · refine ⟨S, w, w3, w4.mono ?_ fun k hk => ⟨?_, by rw [f5.1.1], fun j _ => by rw [f5.2.2.2 _ (by omega)]⟩⟩
          · rw [f5.2.1 db (by omega) (by omega) (by omega) (by omega)]
          · rw [f5.2.1 _ (by omega) (by omega) (by omega) (by omega)]
      obtain ⟨r1, r2⟩ := cmp_inv (h2 := h5) I C f5 q5 q6 (Or.inr ⟨rfl, rfl⟩) (by rw [p5, q7]) (Or.inr q7) (fun _ => comp)
      refine ⟨r1, ⟨cb, db, r2⟩, by rw [p0, v0], fun _ => ?_⟩
      rw [f5.2.2.2 229 (by decide)]
      rcases E.2.1 with ⟨q, -⟩ | ⟨q, -⟩ | ⟨q, S, w, w2, w3, w4, w5⟩
      · rw [v0] at q; exact absurd q (by decide)
      · rw [v0] at q; exact absurd q (by decide)
      · rw [e] at w; cases w; exact w5
end CMP5
