section OPS2
variable {d n db cb : Nat} {h h' : Hp}
/-- the answer is laid down -/
theorem wr {P : Hp → Prop} {h3 : Hp} {X : Int64} (S : hS h3 229 = (21, 1)) (k : P (sL h3 229 0 X)) : (hS h3 229).1 = 21 ∧ ¬ 229 = 1 ∧ ainr 0 (hS h3 229).2 = true ∧ ∀ h8 : Hp, h8 = sL h3 229 (0 : Int32).toNatClampNeg X → P h8 := by
  refine ⟨by rw [S], by decide, by rw [S]; rfl, ?_⟩
  rintro _ rfl; exact k
theorem Inv.s229 (I : Inv n db cb h) : hS h 229 = (21, 1) := I.2.1.2.2.1
/-- nothing turns but the answer -/
theorem Res.thin (I : Inv n db cb h) (X : Int64) : Res n h 0 X (sI (sL h 229 0 X) 197 0 0) := by
  refine ⟨(Mid.of (Sm.sL (by decide))).trans (Mid.of (Sm.sI (by decide))), ⟨db, cb, I.thin (Lo.sL.trans Lo.sI) ⟨by show hN h ≤ hN h; omega, by show hN h ≤ _; omega, by show hU h ≤ _; omega⟩ (fun a ha hb => by rw [hI_ne hb, hI_sL]) (fun j hj => by rw [hI_o (fun q => hj q.2), hI_sL]) (fun a ha => by rw [hL_sI, hL_ne (by omega)]) (fun a ha => rfl)⟩, hI_s, fun _ => hL_s⟩
/-- the message alone -/
theorem Inv.msg (I : Inv n db cb h) (L : Lo h h') (hn : hN h ≤ hN h' ∧ hN h' ≤ hN h + 4 ∧ hU h' ≤ hU h + 60) {m : Nat} (M : Msg h' m) (hi : ∀ a, a < 231 → ¬ a = 5 → ¬ a = 6 → ¬ a = 197 → ¬ a = 200 → hI h' a = hI h a) (h0 : ∀ j, ¬ j = 0 → ¬ j = 7 → hI h' 197 j = hI h 197 j) (hl : ∀ a, a < 229 → hL h' a = hL h a) (hr : ∀ a, a < 231 → hR h' a = hR h a) : Inv (n + 1) db cb h' := by
  have hd := I.dd
  obtain ⟨⟨i1, i2, i3⟩, i4, ⟨⟨t, T⟩, -, ⟨v, V⟩, ⟨b, B⟩, ⟨l, W⟩⟩, F, C⟩ := id I
  refine I.keep L hn ⟨t, T.mono L (by rw [hi 3 (by decide) (by decide) (by decide) (by decide) (by decide)]) (hi 4 (by decide) (by decide) (by decide) (by decide) (by decide)) (h0 2 (by decide) (by decide)) (hi 198 (by decide) (by decide) (by decide) (by decide) (by decide))⟩ ⟨m, M⟩
    ⟨v, V.mono L (by rw [hi 7 (by decide) (by decide) (by decide) (by decide) (by decide)]) (hl 8 (by decide)) (h0 9 (by decide) (by decide)) (hl 201 (by decide))⟩ ⟨b, B.lo L (by decide) (by decide) (by rw [hi 9 (by decide) (by decide) (by decide) (by decide) (by decide)])⟩ ⟨l, W.lo L (by decide) (by decide) (by rw [hi 11 (by decide) (by decide) (by decide) (by decide) (by decide)])⟩
    (F.mono (hi 2 (by decide) (by decide) (by decide) (by decide) (by decide)) (h0 5 (by decide) (by decide)) (h0 10 (by decide) (by decide)) (h0 11 (by decide) (by decide))) fun hc => ?_
  rw [hi 2 (by decide) (by decide) (by decide) (by decide) (by decide)] at hc
  refine (C hc).mono (hi 199 (by decide) (by decide) (by decide) (by decide) (by decide)) (h0 4 (by decide) (by decide)) (by rw [hi cb (by omega) (by omega) (by omega) (by omega) (by omega)]) fun k hk => ⟨hi _ (by omega) (by omega) (by omega) (by omega) (by omega), hr _ (by omega), fun j _ => by rw [hl _ (by omega)]⟩
/-- the text alone -/
theorem Inv.txt (I : Inv n db cb h) (L : Lo h h') (hn : hN h ≤ hN h' ∧ hN h' ≤ hN h + 4 ∧ hU h' ≤ hU h + 60) {t : Nat} (T : Txt h' t) (hi : ∀ a, a < 231 → ¬ a = 3 → ¬ a = 4 → ¬ a = 197 → ¬ a = 198 → hI h' a = hI h a) (h0 : ∀ j, ¬ j = 0 → ¬ j = 2 → hI h' 197 j = hI h 197 j) (hl : ∀ a, a < 229 → hL h' a = hL h a) (hr : ∀ a, a < 231 → hR h' a = hR h a) : Inv (n + 1) db cb h' := by
  have hd := I.dd
  obtain ⟨⟨i1, i2, i3⟩, i4, ⟨-, ⟨m, M⟩, ⟨v, V⟩, ⟨b, B⟩, ⟨l, W⟩⟩, F, C⟩ := id I
  refine I.keep L hn ⟨t, T⟩ ⟨m, M.mono L (by rw [hi 5 (by decide) (by decide) (by decide) (by decide) (by decide)]) (hi 6 (by decide) (by decide) (by decide) (by decide) (by decide)) (h0 7 (by decide) (by decide)) (hi 200 (by decide) (by decide) (by decide) (by decide) (by decide))⟩
    ⟨v, V.mono L (by rw [hi 7 (by decide) (by decide) (by decide) (by decide) (by decide)]) (hl 8 (by decide)) (h0 9 (by decide) (by decide)) (hl 201 (by decide))⟩ ⟨b, B.lo L (by decide) (by decide) (by rw [hi 9 (by decide) (by decide) (by decide) (by decide) (by decide)])⟩ ⟨l, W.lo L (by decide) (by decide) (by rw [hi 11 (by decide) (by decide) (by decide) (by decide) (by decide)])⟩
    (F.mono (hi 2 (by decide) (by decide) (by decide) (by decide) (by decide)) (h0 5 (by decide) (by decide)) (h0 10 (by decide) (by decide)) (h0 11 (by decide) (by decide))) fun hc => ?_
  rw [hi 2 (by decide) (by decide) (by decide) (by decide) (by decide)] at hc
  refine (C hc).mono (hi 199 (by decide) (by decide) (by decide) (by decide) (by decide)) (h0 4 (by decide) (by decide)) (by rw [hi cb (by omega) (by omega) (by omega) (by omega) (by omega)]) fun k hk => ⟨hi _ (by omega) (by omega) (by omega) (by omega) (by omega), hr _ (by omega), fun j _ => by rw [hl _ (by omega)]⟩
/-- the values alone -/
theorem Inv.vls (I : Inv n db cb h) (L : Lo h h') (hn : hN h ≤ hN h' ∧ hN h' ≤ hN h + 4 ∧ hU h' ≤ hU h + 60) {v : Nat} (V : Vls h' v) (hi : ∀ a, a < 231 → ¬ a = 7 → ¬ a = 197 → hI h' a = hI h a) (h0 : ∀ j, ¬ j = 0 → ¬ j = 9 → hI h' 197 j = hI h 197 j) (hl : ∀ a, a < 229 → ¬ a = 8 → ¬ a = 201 → hL h' a = hL h a) (hr : ∀ a, a < 231 → hR h' a = hR h a) : Inv (n + 1) db cb h' := by
  have hd := I.dd
  obtain ⟨⟨i1, i2, i3⟩, i4, ⟨⟨t, T⟩, ⟨m, M⟩, -, ⟨b, B⟩, ⟨l, W⟩⟩, F, C⟩ := id I
  refine I.keep L hn ⟨t, T.mono L (by rw [hi 3 (by decide) (by decide) (by decide)]) (hi 4 (by decide) (by decide) (by decide)) (h0 2 (by decide) (by decide)) (hi 198 (by decide) (by decide) (by decide))⟩ ⟨m, M.mono L (by rw [hi 5 (by decide) (by decide) (by decide)]) (hi 6 (by decide) (by decide) (by decide)) (h0 7 (by decide) (by decide)) (hi 200 (by decide) (by decide) (by decide))⟩
    ⟨v, V⟩ ⟨b, B.lo L (by decide) (by decide) (by rw [hi 9 (by decide) (by decide) (by decide)])⟩ ⟨l, W.lo L (by decide) (by decide) (by rw [hi 11 (by decide) (by decide) (by decide)])⟩
    (F.mono (hi 2 (by decide) (by decide) (by decide)) (h0 5 (by decide) (by decide)) (h0 10 (by decide) (by decide)) (h0 11 (by decide) (by decide))) fun hc => ?_
  rw [hi 2 (by decide) (by decide) (by decide)] at hc
  refine (C hc).mono (hi 199 (by decide) (by decide) (by decide)) (h0 4 (by decide) (by decide)) (by rw [hi cb (by omega) (by omega) (by omega)]) fun k hk => ⟨hi _ (by omega) (by omega) (by omega), hr _ (by omega), fun j _ => by rw [hl _ (by omega) (by omega) (by omega)]⟩
theorem op_value (I : Inv n db cb h) (hn : n ≤ 600) (x : Int32) : Ca (d + 40) m_La_value [.ref 2, .int x, .ref 229] h (QI fun v h1 => (Mid h h1 ∧ (hS h1 197).1 = 8) ∧ Ca (d + 40) m_Mo_value [.ref 197, .int x] h1 (QL fun b h2 => Res n h v b h2)) := by
  obtain ⟨⟨i1, i2, i3⟩, i4, ⟨⟨t, T⟩, ⟨m, M⟩, ⟨v, V⟩, ⟨b, B⟩, ⟨l, W⟩⟩, F, C⟩ := id I
  have e1 : hR h 2 2 = 7 := i4.1.2.1.2.2.1
  have m5 : hI h 7 1 = iv v := V.1.2.2.2.2.1
  have mm : v ≤ 160 := V.1.2.2.2.2.2.1
  have bad : (x < 0 ∨ ¬ x < iv v) → room h 6 = true ∧ (if (hS (hNew h 11 0 6) (hN h)).1 = 11 then (Mid h (hNew h 11 0 6) ∧ (hS (hNew h 11 0 6) 197).1 = 8) ∧ Ca (d + 40) m_Mo_value [.ref 197, .int x] (hNew h 11 0 6) (QL fun b h2 => Res n h 1 b h2) else False) := by
    intro hx
    refine ⟨I.room6 hn, ?_⟩
    rw [hS_nw, if_pos rfl, if_pos rfl]
    refine ⟨⟨I.excMid 11, I.exc8 11⟩, w_Mo_value ⟨I.exc8 11, ?_⟩⟩
    rintro _ rfl
    rw [hI_o (by decide), hI_nwne (by omega), V.2.1]
    have k : (if (1 : Int32) = 0 then (hS (sI (hNew h 11 0 6) 197 0 0) 197).1 = 8 ∧ (hS (sI (hNew h 11 0 6) 197 0 0) (hR (sI (hNew h 11 0 6) 197 0 0) 197 8)).1 = 21 ∧ ainr x (hS (sI (hNew h 11 0 6) 197 0 0) (hR (sI (hNew h 11 0 6) 197 0 0) 197 8)).2 = true ∧ Res n h 1 (hL (sI (hNew h 11 0 6) 197 0 0) (hR (sI (hNew h 11 0 6) 197 0 0) 197 8) x.toNatClampNeg) (sI (hNew h 11 0 6) 197 0 0) else (hS (sI (hNew h 11 0 6) 197 0 0) 197).1 = 8 ∧ Ca (d + 39) m_Mo_fail [.ref 197, .int 1] (sI (hNew h 11 0 6) 197 0 0) (QI fun v10 h11 => Res n h 1 v10.toInt64 h11)) := by
      rw [if_neg (by decide)]
      refine ⟨I.exc8 11, w_Mo_fail ⟨I.exc8 11, ?_⟩⟩
      rintro _ rfl
      exact Res.exc I 11 (by decide)
    refine w_Mo_out ?_
    by_cases c0 : x < 0
    · rw [if_pos c0]; exact k
    · rw [if_neg c0, if_neg (hx.resolve_left c0)]; exact k
  refine w_La_value ⟨I.s2, w_Ff_value ⟨I.s2, w_Ff_demandValue ?_⟩⟩
  by_cases c0 : x < 0
  · rw [if_pos c0]; exact bad (Or.inl c0)
  · rw [if_neg c0]
    refine ⟨I.s2, ?_⟩
    rw [e1]
    refine ⟨V.1.1, ?_⟩
    rw [m5]
    by_cases c1 : x < iv v
    · rw [if_pos c1]
      obtain ⟨c, hc, rfl⟩ := iv_of c0
      have c1 := (iv_lt hc (by omega)).mp c1
      refine ⟨I.s2, V.1.1, c_Lo_at V.1 hc ?_⟩
      rw [if_pos c1]
      refine wr I.s229 ?_
      refine ⟨⟨Mid.of (Sm.sL (by decide)), I.m8⟩, w_Mo_value ⟨I.m8, ?_⟩⟩
      rintro _ rfl
      rw [hI_o (by decide), hI_sL, V.2.1]
      refine w_Mo_out ?_
      rw [if_neg c0, if_pos ((iv_lt hc (by omega)).mpr c1), if_pos rfl]
      refine ⟨I.m8, ?_⟩
      have er : hR (sI (sL h 229 0 (hL h 8 c)) 197 0 0) 197 8 = 201 := I.M.r8
      have es : hS (sI (sL h 229 0 (hL h 8 c)) 197 0 0) 201 = (21, 161) := I.M.s201
      rw [er, es]
      refine ⟨rfl, ainr_iv hc (by omega), ?_⟩
      rw [iv_clamp hc, hL_sI, hL_o (by omega), ← V.2.2 c c1]
      exact Res.thin I _
    · rw [if_neg c1]; exact bad (Or.inr c1)
theorem op_byteAt (I : Inv n db cb h) (hn : n ≤ 600) (x : Int32) : Ca (d + 40) m_La_byteAt [.ref 2, .int x, .ref 229] h (QI fun v h1 => (Mid h h1 ∧ (hS h1 197).1 = 8) ∧ Ca (d + 40) m_Mo_byteAt [.ref 197, .int x] h1 (QI fun b h2 => Res n h v b.toInt64 h2)) := by
  obtain ⟨⟨i1, i2, i3⟩, i4, ⟨⟨t, T⟩, ⟨m, M⟩, ⟨v, V⟩, ⟨b, B⟩, ⟨l, W⟩⟩, F, C⟩ := id I
  have e1 : hR h 2 1 = 5 := i4.1.2.1.2.1
  have m5 : hI h 5 1 = iv m := M.1.2.2.2.2.1
  have mm : m ≤ 120 := M.1.2.2.2.2.2.1
  have bad : (x < 0 ∨ ¬ x < iv m) → room h 6 = true ∧ (if (hS (hNew h 11 0 6) (hN h)).1 = 11 then (Mid h (hNew h 11 0 6) ∧ (hS (hNew h 11 0 6) 197).1 = 8) ∧ Ca (d + 40) m_Mo_byteAt [.ref 197, .int x] (hNew h 11 0 6) (QI fun b h2 => Res n h 1 b.toInt64 h2) else False) := by
    intro hx
    refine ⟨I.room6 hn, ?_⟩
    rw [hS_nw, if_pos rfl, if_pos rfl]
    refine ⟨⟨I.excMid 11, I.exc8 11⟩, w_Mo_byteAt ⟨I.exc8 11, ?_⟩⟩
    rintro _ rfl
    rw [hI_o (by decide), hI_nwne (by omega), M.2.1]
    refine w_Mo_out ?_
    have k : Ca (d + 39) m_Mo_fail [.ref 197, .int 1] (sI (hNew h 11 0 6) 197 0 0) (QI fun v10 h11 => Res n h 1 v10.toInt64 h11) := by
      refine w_Mo_fail ⟨I.exc8 11, ?_⟩
      rintro _ rfl
      exact Res.exc I 11 (by decide)
    by_cases c0 : x < 0
    · rw [if_pos c0, if_neg (by decide)]; exact ⟨I.exc8 11, k⟩
    · rw [if_neg c0, if_neg (hx.resolve_left c0), if_neg (by decide)]; exact ⟨I.exc8 11, k⟩
  refine w_La_byteAt ⟨I.s2, w_Ff_byteAt ?_⟩
  by_cases c0 : x < 0
  · rw [if_pos c0]; exact bad (Or.inl c0)
  · rw [if_neg c0]
    refine ⟨I.s2, ?_⟩
    rw [e1]
    refine ⟨M.1.1, ?_⟩
    rw [m5]
    by_cases c1 : x < iv m
    · rw [if_pos c1]
      obtain ⟨c, hc, rfl⟩ := iv_of c0
      have c1 := (iv_lt hc (by omega)).mp c1
      refine c_By_at M.1 hc ?_
      rw [if_pos c1]
      refine wr I.s229 ?_
      refine ⟨⟨Mid.of (Sm.sL (by decide)), I.m8⟩, w_Mo_byteAt ⟨I.m8, ?_⟩⟩
      rintro _ rfl
      rw [hI_o (by decide), hI_sL, M.2.1]
      refine w_Mo_out ?_
      rw [if_neg c0, if_pos ((iv_lt hc (by omega)).mpr c1), if_pos rfl]
      refine ⟨I.m8, ?_⟩
      have er : ∀ X, hR (sI (sL h 229 0 X) 197 0 0) 197 6 = 200 := fun _ => I.M.r6
      have es : ∀ X, hS (sI (sL h 229 0 X) 197 0 0) 200 = (20, 121) := fun _ => I.M.s200
      rw [er, es]
      refine ⟨rfl, ainr_iv hc (by omega), ?_⟩
      rw [iv_clamp hc, hI_o (by omega), hI_sL, ← M.2.2 c c1]
      exact Res.thin I _
    · rw [if_neg c1]; exact bad (Or.inr c1)
theorem op_count (I : Inv n db cb h) (hn : n ≤ 600) (x : Int32) : Ca (d + 40) m_La_count [.ref 2, .int x, .ref 229] h (QI fun v h1 => (Mid h h1 ∧ (hS h1 197).1 = 8) ∧ Ca (d + 40) m_Mo_count [.ref 197, .int x] h1 (QI fun b h2 => Res n h v b.toInt64 h2)) := by
  obtain ⟨⟨i1, i2, i3⟩, i4, ⟨⟨t, T⟩, ⟨m, M⟩, ⟨v, V⟩, ⟨b, B⟩, ⟨l, W⟩⟩, F, C⟩ := id I
  have e0 : hR h 2 0 = 3 := i4.1.2.1.1
  have e1 : hR h 2 1 = 5 := i4.1.2.1.2.1
  have e2 : hR h 2 2 = 7 := i4.1.2.1.2.2.1
  refine w_La_count ⟨I.s2, w_Ff_count ?_⟩
  have ok : ∀ (X : Int32), Ca (d + 40) m_Mo_count [.ref 197, .int x] (sL h 229 0 X.toInt64) (QI fun b h2 => Res n h 0 b.toInt64 h2) → (hS h 229).1 = 21 ∧ ¬ 229 = 1 ∧ ainr 0 (hS h 229).2 = true ∧ ∀ h8 : Hp, h8 = sL h 229 (0 : Int32).toNatClampNeg X.toInt64 → (Mid h h8 ∧ (hS h8 197).1 = 8) ∧ Ca (d + 40) m_Mo_count [.ref 197, .int x] h8 (QI fun b h2 => Res n h 0 b.toInt64 h2) := fun X k => wr (P := fun h8 => (Mid h h8 ∧ (hS h8 197).1 = 8) ∧ Ca (d + 40) m_Mo_count [.ref 197, .int x] h8 (QI fun b h2 => Res n h 0 b.toInt64 h2)) I.s229 ⟨⟨Mid.of (Sm.sL (by decide)), I.m8⟩, k⟩
  have md : ∀ (X : Int64) (j : Nat), ¬ j = 0 → hI (sI (sL h 229 0 X) 197 0 0) 197 j = hI h 197 j := fun X j hj => by rw [hI_o (fun q => hj q.2), hI_sL]
  by_cases c0 : x.toInt = 0
  · rw [if_pos c0, e0]
    refine ⟨I.s2, T.1.1, ok _ (w_Mo_count ⟨I.m8, ?_⟩)⟩
    rintro _ rfl
    rw [if_pos c0, md _ 2 (by decide), T.2.1, T.1.2.2.2.2.1]; exact Res.thin I _
  · rw [if_neg c0]
    by_cases c1 : x.toInt = 1
    · rw [if_pos c1, e1]
      refine ⟨I.s2, M.1.1, ok _ (w_Mo_count ⟨I.m8, ?_⟩)⟩
      rintro _ rfl
      rw [if_neg c0, if_pos c1, md _ 7 (by decide), M.2.1, M.1.2.2.2.2.1]; exact Res.thin I _
    · rw [if_neg c1]
      by_cases c2 : x.toInt = 2
      · rw [if_pos c2, e2]
        refine ⟨I.s2, V.1.1, ok _ (w_Mo_count ⟨I.m8, ?_⟩)⟩
        rintro _ rfl
        rw [if_neg c0, if_neg c1, if_pos c2, md _ 9 (by decide), V.2.1, V.1.2.2.2.2.1]; exact Res.thin I _
      · rw [if_neg c2]
        by_cases c3 : x.toInt = 3
        · rw [if_pos c3]
          refine ⟨I.s2, ok _ (w_Mo_count ⟨I.m8, ?_⟩)⟩
          rintro _ rfl
          rw [if_neg c0, if_neg c1, if_neg c2, if_pos c3, md _ 10 (by decide), ← F.1.2.1]; exact Res.thin I _
        · rw [if_neg c3]
          by_cases c4 : x.toInt = 4
          · rw [if_pos c4]
            refine ⟨I.s2, ok _ (w_Mo_count ⟨I.m8, ?_⟩)⟩
            rintro _ rfl
            rw [if_neg c0, if_neg c1, if_neg c2, if_neg c3, if_pos c4, md _ 11 (by decide), ← F.1.2.2]; exact Res.thin I _
          · rw [if_neg c4]
            by_cases c5 : x.toInt = 5
            · rw [if_pos c5]
              refine ⟨I.s2, ?_⟩
              by_cases c6 : hI h 2 7 = 0
              · rw [if_pos c6]
                refine ok _ (w_Mo_count ⟨I.m8, ?_⟩)
                rintro _ rfl
                rw [if_neg c0, if_neg c1, if_neg c2, if_neg c3, if_neg c4, if_pos c5, md _ 5 (by decide), ← F.1.1, if_pos c6]; exact Res.thin I _
              · rw [if_neg c6]
                refine ok _ (w_Mo_count ⟨I.m8, ?_⟩)
                rintro _ rfl
                rw [if_neg c0, if_neg c1, if_neg c2, if_neg c3, if_neg c4, if_pos c5, md _ 5 (by decide), ← F.1.1, if_neg c6]; exact Res.thin I _
            · rw [if_neg c5]
              refine ⟨I.room6 hn, ?_⟩
              rw [hS_nw, if_pos rfl, if_pos rfl]
              refine ⟨⟨I.excMid 9, I.exc8 9⟩, w_Mo_count ⟨I.exc8 9, ?_⟩⟩
              rintro _ rfl
              rw [if_neg c0, if_neg c1, if_neg c2, if_neg c3, if_neg c4, if_neg c5]
              refine w_Mo_fail ⟨I.exc8 9, ?_⟩
              rintro _ rfl
              exact Res.exc I 9 (by decide)
end OPS2
