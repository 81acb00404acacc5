/-- how 'real' comes out -/
def ResD (n : Nat) (h : Hp) (v : Int32) (b : UInt64) (h2 : Hp) : Prop := Mid h h2 ∧ (∃ db cb, Inv (n + 1) db cb h2) ∧ hI h2 197 0 = v ∧ (v = 0 → Op.cmpValue (FP.dcmp (hD h2 230 0) b) .l = 0 ∨ (¬ Op.cmpValue (FP.dcmp (hD h2 230 0) (hD h2 230 0)) .l = 0 ∧ ¬ Op.cmpValue (FP.dcmp b b) .l = 0))
section OPD
variable {d n db cb : Nat} {h h' : Hp}
/-- the double is laid down -/
theorem wrD {P : Hp → Prop} {h3 : Hp} {X : UInt64} (S : hS h3 230 = (23, 1)) (k : P (sD h3 230 0 X)) : (hS h3 230).1 = 23 ∧ ¬ 230 = 1 ∧ ainr 0 (hS h3 230).2 = true ∧ ∀ h8 : Hp, h8 = sD h3 230 (0 : Int32).toNatClampNeg X → P h8 := by
  refine ⟨by rw [S], by decide, by rw [S]; rfl, ?_⟩
  rintro _ rfl; exact k
theorem Inv.s230 (I : Inv n db cb h) : hS h 230 = (23, 1) := I.2.1.2.2.2
theorem ResD.thin (I : Inv n db cb h) (X b : UInt64) (k : Op.cmpValue (FP.dcmp X b) .l = 0) : ResD n h 0 b (sI (sD h 230 0 X) 197 0 0) := by
  refine ⟨(Mid.of (Sm.sD (by decide))).trans (Mid.of (Sm.sI (by decide))), ⟨db, cb, I.thin (Lo.sD.trans Lo.sI) ⟨by show hN h ≤ hN h; omega, by show hN h ≤ _; omega, by show hU h ≤ _; omega⟩ (fun a ha hb => by rw [hI_ne hb, hI_sD]) (fun j hj => by rw [hI_o (fun q => hj q.2), hI_sD]) (fun a ha => by rw [hL_sI, hL_sD]) (fun a ha => rfl)⟩, hI_s, fun _ => Or.inl ?_⟩
  rw [hD_sI, hD_sD, if_pos ⟨rfl, rfl⟩]; exact k
theorem ResD.exc (I : Inv n db cb h) (c : Nat) {e : Int32} {b : UInt64} (he : ¬ e = 0) : ResD n h e b (sI (sI (hNew h c 0 6) 197 0 0) 197 0 e) := by
  have R := Res.exc I c he (b := 0)
  exact ⟨R.1, R.2.1, R.2.2.1, fun q => absurd q he⟩
theorem op_real (I : Inv n db cb h) (hn : n ≤ 600) (x : Int32) : Ca (d + 40) m_La_real [.ref 2, .int x, .ref 230] h (QI fun v h1 => (Mid h h1 ∧ (hS h1 197).1 = 8) ∧ Ca (d + 40) m_Mo_real [.ref 197, .int x] h1 (QD fun b h2 => ResD n h v b h2)) := by
  obtain ⟨⟨i1, i2, i3⟩, i4, ⟨⟨t, T⟩, ⟨m, M⟩, ⟨v, V⟩, ⟨b, B⟩, ⟨l, W⟩⟩, F, C⟩ := id I
  have e1 : hR h 2 2 = 7 := i4.1.2.1.2.2.1
  have m5 : hI h 7 1 = iv v := V.1.2.2.2.2.1
  have mm : v ≤ 160 := V.1.2.2.2.2.2.1
  have bad : (x < 0 ∨ ¬ x < iv v) → room h 6 = true ∧ (if (hS (hNew h 11 0 6) (hN h)).1 = 11 then (Mid h (hNew h 11 0 6) ∧ (hS (hNew h 11 0 6) 197).1 = 8) ∧ Ca (d + 40) m_Mo_real [.ref 197, .int x] (hNew h 11 0 6) (QD fun b h2 => ResD n h 1 b h2) else False) := by
    intro hx
    refine ⟨I.room6 hn, ?_⟩
    rw [hS_nw, if_pos rfl, if_pos rfl]
    refine ⟨⟨I.excMid 11, I.exc8 11⟩, w_Mo_real ⟨I.exc8 11, ?_⟩⟩
    rintro _ rfl
    rw [hI_o (by decide), hI_nwne (by omega), V.2.1]
    refine w_Mo_out ?_
    have k : Ca (d + 39) m_Mo_fail [.ref 197, .int 1] (sI (hNew h 11 0 6) 197 0 0) (QI fun v10 h11 => ResD n h 1 (FP.i2d v10) h11) := by
      refine w_Mo_fail ⟨I.exc8 11, ?_⟩
      rintro _ rfl
      exact ResD.exc I 11 (by decide)
    by_cases c0 : x < 0
    · rw [if_pos c0, if_neg (by decide)]; exact ⟨I.exc8 11, k⟩
    · rw [if_neg c0, if_neg (hx.resolve_left c0), if_neg (by decide)]; exact ⟨I.exc8 11, k⟩
  refine w_La_real ⟨I.s2, w_Ff_real ⟨I.s2, w_Ff_demandValue ?_⟩⟩
  by_cases c0 : x < 0
  · rw [if_pos c0]; exact bad (Or.inl c0)
  · rw [if_neg c0]
    refine ⟨I.s2, ?_⟩
    rw [e1]
    refine ⟨V.1.1, ?_⟩
    rw [m5]
    by_cases c1 : x < iv v
    · rw [if_pos c1]
      obtain ⟨c, hc, rfl⟩ := iv_of c0
      have c1 := (iv_lt hc (by omega)).mp c1
      refine ⟨I.s2, V.1.1, c_Lo_at V.1 hc ?_⟩
      rw [if_pos c1]
      refine c_doubleOf _ ?_
      refine wrD (P := fun h8 => (Mid h h8 ∧ (hS h8 197).1 = 8) ∧ Ca (d + 40) m_Mo_real [.ref 197, .int (iv c)] h8 (QD fun b h2 => ResD n h 0 b h2)) I.s230 ?_
      refine ⟨⟨Mid.of (Sm.sD (by decide)), I.m8⟩, w_Mo_real ⟨I.m8, ?_⟩⟩
      rintro _ rfl
      rw [hI_o (by decide), hI_sD, V.2.1]
      refine w_Mo_out ?_
      rw [if_neg c0, if_pos ((iv_lt hc (by omega)).mpr c1), if_pos rfl]
      refine ⟨I.m8, ?_⟩
      have er : ∀ X, hR (sI (sD h 230 0 X) 197 0 0) 197 8 = 201 := fun _ => I.M.r8
      have es : ∀ X, hS (sI (sD h 230 0 X) 197 0 0) 201 = (21, 161) := fun _ => I.M.s201
      rw [er, es]
      refine ⟨rfl, ainr_iv hc (by omega), ?_⟩
      rw [iv_clamp hc, hL_sI, hL_sD, ← V.2.2 c c1]
      rintro _ rfl _ rfl _ rfl
      generalize hL h 8 c = X
      rw [exp_m, frac_]
      have z1 : jv (eN X) = (2047 : Int64) ↔ eN X = 2047 := jv_inj (a := eN X) (b := 2047) (by have := eN_lt X; omega) (by decide)
      have z2 : jv (fN X) = (0 : Int64) ↔ fN X = 0 := jv_inj (a := fN X) (b := 0) (by have := fN_lt X; omega) (by decide)
      have ok := ResD.thin I (dC X) (dM X) (d_same X)
      by_cases c : eN X = 2047
      · rw [if_pos (z1.mpr c)]
        by_cases f : fN X = 0
        · rw [if_pos (z2.mpr f)]
          exact mo_real66 X (fun q => q.2 f) ok
        · rw [if_neg (fun q => f (z2.mp q))]
          have : dM X = 0 := by unfold dM; rw [if_pos c, if_neg f]
          rw [this] at ok; exact ok
      · rw [if_neg (fun q => c (z1.mp q))]
        exact mo_real66 X (fun q => c q.1) ok
    · rw [if_neg c1]; exact bad (Or.inr c1)
end OPD
