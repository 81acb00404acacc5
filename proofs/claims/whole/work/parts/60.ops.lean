section OPS
variable {d n db cb : Nat} {h h' : Hp}
theorem Inv.dd (I : Inv n db cb h) : db + 92 ≤ 197 ∧ cb + 92 ≤ 197 ∧ 13 ≤ db ∧ 13 ≤ cb := by
  have := I.2.1.1.2.2.2; omega
theorem cN_ : capN = 601000 := rfl
theorem cU_ : capU = 7293000 := rfl
/-- nothing but the Model's 'failed', the answer's array and new things -/
theorem Inv.thin (I : Inv n db cb h) (L : Lo h h') (hn : hN h ≤ hN h' ∧ hN h' ≤ hN h + 4 ∧ hU h' ≤ hU h + 60) (hi : ∀ a, a < 231 → ¬ a = 197 → hI h' a = hI h a) (h0 : ∀ j, ¬ j = 0 → hI h' 197 j = hI h 197 j) (hl : ∀ a, a < 229 → hL h' a = hL h a) (hr : ∀ a, a < 231 → hR h' a = hR h a) : Inv (n + 1) db cb h' := by
  have hd := I.dd
  obtain ⟨⟨i1, i2, i3⟩, i4, ⟨⟨t, T⟩, ⟨m, M⟩, ⟨v, V⟩, ⟨b, B⟩, ⟨l, W⟩⟩, F, C⟩ := id I
  refine I.keep L hn ⟨t, T.mono L (by rw [hi 3 (by decide) (by decide)]) (hi 4 (by decide) (by decide)) (h0 2 (by decide)) (hi 198 (by decide) (by decide))⟩ ⟨m, M.mono L (by rw [hi 5 (by decide) (by decide)]) (hi 6 (by decide) (by decide)) (h0 7 (by decide)) (hi 200 (by decide) (by decide))⟩
    ⟨v, V.mono L (by rw [hi 7 (by decide) (by decide)]) (hl 8 (by decide)) (h0 9 (by decide)) (hl 201 (by decide))⟩ ⟨b, B.lo L (by decide) (by decide) (by rw [hi 9 (by decide) (by decide)])⟩ ⟨l, W.lo L (by decide) (by decide) (by rw [hi 11 (by decide) (by decide)])⟩
    (F.mono (hi 2 (by decide) (by decide)) (h0 5 (by decide)) (h0 10 (by decide)) (h0 11 (by decide))) fun hc => ?_
  rw [hi 2 (by decide) (by decide)] at hc
  refine (C hc).mono (hi 199 (by decide) (by decide)) (h0 4 (by decide)) (by rw [hi cb (by omega) (by omega)]) fun k hk => ⟨hi _ (by omega) (by omega), hr _ (by omega), fun j _ => by rw [hl _ (by omega)]⟩
/-- how a call of the law comes out -/
def Res (n : Nat) (h : Hp) (v : Int32) (b : Int64) (h2 : Hp) : Prop := Mid h h2 ∧ (∃ db cb, Inv (n + 1) db cb h2) ∧ hI h2 197 0 = v ∧ (v = 0 → hL h2 229 0 = b)
theorem Inv.room6 (I : Inv n db cb h) (hn : n ≤ 600) : room h 6 = true := by
  have := I.1; exact room_of (by rw [cN_]; omega) (by rw [cU_]; omega)
theorem Inv.s2 (I : Inv n db cb h) : (hS h 2).1 = 7 := I.2.1.1.1
theorem Inv.m8 (I : Inv n db cb h) : (hS h 197).1 = 8 := I.2.1.2.1.1
theorem Inv.M (I : Inv n db cb h) : ShM h := I.2.1.2.1
/-- an exception of the class's, and the Model's refusal -/
theorem Inv.exc (I : Inv n db cb h) (c : Nat) (e : Int32) : Inv (n + 1) db cb (sI (sI (hNew h c 0 6) 197 0 0) 197 0 e) := by
  have h1 := I.1
  refine I.thin ((Lo.nw (by omega)).trans (Lo.sI.trans Lo.sI)) ⟨by rw [hN_sI, hN_sI, hN_nw]; omega, by rw [hN_sI, hN_sI, hN_nw]; omega, by rw [hU_sI, hU_sI, hU_nw]; omega⟩ (fun a ha hb => ?_) (fun j hj => ?_) (fun a ha => ?_) (fun a ha => ?_)
  · rw [hI_ne hb, hI_ne hb, hI_nwne (by omega)]
  · rw [hI_sI, if_neg (fun q => hj q.2), hI_sI, if_neg (fun q => hj q.2), hI_nwne (by omega)]
  · rw [hL_sI, hL_sI, hL_nwne (by omega)]
  · rw [hR_sI, hR_sI, hR_nwne (by omega)]
theorem Inv.excMid (I : Inv n db cb h) (c : Nat) : Mid h (hNew h c 0 6) := ⟨by rw [hS_nw, if_neg (by have := I.1; omega)], hI_nwne (by have := I.1; omega)⟩
/-- what stands behind the class's part: the Model may begin -/
def Mdl (h h1 : Hp) : Prop := Mid h h1 ∧ (hS h1 197).1 = 8 ∧ (hS h1 1 = hS h 1)
theorem Inv.exc8 (I : Inv n db cb h) (c : Nat) : (hS (hNew h c 0 6) 197).1 = 8 := by rw [hS_nw, if_neg (by have := I.1; omega)]; exact I.m8
/-- refused on both sides -/
theorem Res.exc (I : Inv n db cb h) (c : Nat) {e : Int32} {b : Int64} (he : ¬ e = 0) : Res n h e b (sI (sI (hNew h c 0 6) 197 0 0) 197 0 e) :=
  ⟨(I.excMid c).trans ((Mid.of (Sm.sI (by decide))).trans (Mid.of (Sm.sI (by decide)))), ⟨db, cb, I.exc c e⟩, by rw [hI_sI, if_pos ⟨rfl, rfl⟩], fun q => absurd q he⟩
theorem op_cut (I : Inv n db cb h) (hn : n ≤ 600) (x : Int32) : Ca (d + 40) m_La_cut [.ref 2, .int x, .ref 229] h (QI fun v h1 => (Mid h h1 ∧ (hS h1 197).1 = 8) ∧ Ca (d + 40) m_Mo_cut [.ref 197, .int x] h1 (QI fun b h2 => Res n h v b.toInt64 h2)) := by
  obtain ⟨⟨i1, i2, i3⟩, i4, ⟨⟨t, T⟩, ⟨m, M⟩, ⟨v, V⟩, ⟨b, B⟩, ⟨l, W⟩⟩, F, C⟩ := id I
  have e1 : hR h 2 1 = 5 := i4.1.2.1.2.1
  have m5 : hI h 5 1 = iv m := M.1.2.2.2.2.1
  have mm : m ≤ 120 := M.1.2.2.2.2.2.1
  refine w_La_cut ⟨I.s2, w_Ff_cut ?_⟩
  rw [e1, m5]
  by_cases c0 : x < 0
  · rw [if_pos c0]
    refine ⟨I.room6 hn, ?_⟩
    rw [hS_nw, if_pos rfl, if_pos rfl]
    refine ⟨⟨I.excMid 9, I.exc8 9⟩, w_Mo_cut ⟨I.exc8 9, ?_⟩⟩
    rintro _ rfl
    rw [if_pos c0]
    refine w_Mo_fail ⟨I.exc8 9, ?_⟩
    rintro _ rfl
    exact Res.exc I 9 (by decide)
  · rw [if_neg c0]
    obtain ⟨c, hc, rfl⟩ := iv_of c0
    refine ⟨I.s2, M.1.1, ?_⟩
    by_cases c1 : m < c
    · rw [if_pos ((iv_lt (by omega) hc).mpr c1)]
      refine ⟨I.room6 hn, ?_⟩
      rw [hS_nw, if_pos rfl, if_pos rfl]
      refine ⟨⟨I.excMid 9, I.exc8 9⟩, w_Mo_cut ⟨I.exc8 9, ?_⟩⟩
      rintro _ rfl
      rw [if_neg c0, hI_o (by decide), hI_nwne (by omega), M.2.1, if_pos ((iv_lt (by omega) hc).mpr c1)]
      refine w_Mo_fail ⟨I.exc8 9, ?_⟩
      rintro _ rfl
      exact Res.exc I 9 (by decide)
    · rw [if_neg (fun q => c1 ((iv_lt (by omega) hc).mp q))]
      have k : ∀ h1, hI h1 5 1 = iv c → (∀ a, ¬ a = 5 → Sm h h1 a) → Lo h h1 → hN h1 = hN h → hU h1 = hU h → (hS h1 229).1 = 21 ∧ ¬ 229 = 1 ∧ ainr 0 (hS h1 229).2 = true ∧ ∀ h8, h8 = sL h1 229 (0 : Int32).toNatClampNeg (iv c).toInt64 → (Mid h h8 ∧ (hS h8 197).1 = 8) ∧ Ca (d + 40) m_Mo_cut [.ref 197, .int (iv c)] h8 (QI fun b h2 => Res n h 0 b.toInt64 h2) := by
        intro h1 a1 a2 a3 a4 a5
        have e9 : hS h1 229 = (21, 1) := by rw [(a3 229 (by decide)).2]; exact i4.2.2.1
        refine ⟨by rw [e9], by decide, by rw [e9]; rfl, ?_⟩
        rintro _ rfl
        have h8 : (hS h1 197).1 = 8 := by rw [(a3 197 (by decide)).2]; exact I.m8
        refine ⟨⟨(Mid.of (a2 1 (by decide))).trans (Mid.of (Sm.sL (by decide))), h8⟩, w_Mo_cut ⟨h8, ?_⟩⟩
        rintro _ rfl
        rw [if_neg c0, hI_o (by decide), hI_sL, (a2 197 (by decide)).1, M.2.1, if_neg (fun q => c1 ((iv_lt (by omega) hc).mp q))]
        rintro _ rfl
        rw [hI_s]
        have L : Lo h (sI (sI (sL h1 229 (0 : Int32).toNatClampNeg (iv c).toInt64) 197 0 0) 197 7 (iv c)) := a3.trans (Lo.sL.trans (Lo.sI.trans Lo.sI))
        refine ⟨(Mid.of (a2 1 (by decide))).trans ((Mid.of (Sm.sL (by decide))).trans ((Mid.of (Sm.sI (by decide))).trans (Mid.of (Sm.sI (by decide))))), ⟨db, cb, ?_⟩, by rw [hI_o (by decide), hI_s], fun _ => hL_s⟩
        have hi : ∀ a, ¬ a = 5 → ¬ a = 197 → hI (sI (sI (sL h1 229 (0 : Int32).toNatClampNeg (iv c).toInt64) 197 0 0) 197 7 (iv c)) a = hI h a := fun a q1 q2 => by rw [hI_ne q2, hI_ne q2, hI_sL, (a2 a q1).1]
        have h0 : ∀ j, ¬ j = 0 → ¬ j = 7 → hI (sI (sI (sL h1 229 (0 : Int32).toNatClampNeg (iv c).toInt64) 197 0 0) 197 7 (iv c)) 197 j = hI h 197 j := fun j q1 q2 => by rw [hI_o (fun e => q2 e.2), hI_o (fun e => q1 e.2), hI_sL, (a2 197 (by decide)).1]
        have hl : ∀ a, ¬ a = 5 → ¬ a = 229 → hL (sI (sI (sL h1 229 (0 : Int32).toNatClampNeg (iv c).toInt64) 197 0 0) 197 7 (iv c)) a = hL h a := fun a q1 q2 => by rw [hL_sI, hL_sI, hL_ne q2, (a2 a q1).2.1]
        have hd := I.dd
        refine I.keep L ⟨by show hN h ≤ hN h1; omega, by show hN h1 ≤ _; omega, by show hU h1 ≤ _; omega⟩ ⟨t, T.mono L (by rw [hi 3 (by decide) (by decide)]) (hi 4 (by decide) (by decide)) (h0 2 (by decide) (by decide)) (hi 198 (by decide) (by decide))⟩
          ⟨c, M.1.len L (by decide) (by decide) (by rw [hI_ne (by decide), hI_ne (by decide), hI_sL]; exact a1) (by omega), by rw [hI_s], fun i hi' => by rw [hi 6 (by decide) (by decide), hi 200 (by decide) (by decide)]; exact M.2.2 i (by omega)⟩
          ⟨v, V.mono L (by rw [hi 7 (by decide) (by decide)]) (hl 8 (by decide) (by decide)) (h0 9 (by decide) (by decide)) (hl 201 (by decide) (by decide))⟩ ⟨b, B.lo L (by decide) (by decide) (by rw [hi 9 (by decide) (by decide)])⟩ ⟨l, W.lo L (by decide) (by decide) (by rw [hi 11 (by decide) (by decide)])⟩
          (F.mono (hi 2 (by decide) (by decide)) (h0 5 (by decide) (by decide)) (h0 10 (by decide) (by decide)) (h0 11 (by decide) (by decide))) fun hc => ?_
        rw [hi 2 (by decide) (by decide)] at hc
        exact (C hc).mono (hi 199 (by decide) (by decide)) (h0 4 (by decide) (by decide)) (by rw [hi cb (by omega) (by omega)]) fun k hk => ⟨hi _ (by omega) (by omega), by show hR h1 _ = _; rw [(a2 _ (by omega)).2.2.1], fun j _ => by rw [hl _ (by omega) (by omega)]⟩
      exact c_By_shortenTo M.1 (by omega) (k _ (by rw [hI_s]) (fun a ha => Sm.sI ha) Lo.sI rfl rfl) (fun q => k _ (by rw [m5, q]) (fun a ha => Sm.refl h a) (Lo.refl h) rfl rfl)
end OPS
