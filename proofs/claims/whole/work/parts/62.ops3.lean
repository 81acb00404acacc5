section OPS3
variable {d n db cb : Nat} {h h' : Hp}
theorem op_set (I : Inv n db cb h) (hn : n ≤ 600) (x : Int32) (y : Int64) : Ca (d + 40) m_La_set [.ref 2, .int x, .long y, .ref 229] h (QI fun v h1 => (Mid h h1 ∧ (hS h1 197).1 = 8) ∧ Ca (d + 40) m_Mo_set [.ref 197, .int x, .long y] h1 (QI fun b h2 => Res n h v b.toInt64 h2)) := by
  obtain ⟨⟨i1, i2, i3⟩, i4, ⟨⟨t, T⟩, ⟨m, M⟩, ⟨v, V⟩, ⟨b, B⟩, ⟨l, W⟩⟩, F, C⟩ := id I
  have e1 : hR h 2 2 = 7 := i4.1.2.1.2.2.1
  have m5 : hI h 7 1 = iv v := V.1.2.2.2.2.1
  have mm : v ≤ 160 := V.1.2.2.2.2.2.1
  refine w_La_set ⟨I.s2, w_Ff_set ?_⟩
  rw [e1, m5]
  have bad : (x < 0 ∨ iv v < x) → room h 6 = true ∧ (if (hS (hNew h 9 0 6) (hN h)).1 = 9 then (Mid h (hNew h 9 0 6) ∧ (hS (hNew h 9 0 6) 197).1 = 8) ∧ Ca (d + 40) m_Mo_set [.ref 197, .int x, .long y] (hNew h 9 0 6) (QI fun b h2 => Res n h 1 b.toInt64 h2) else if (hS (hNew h 9 0 6) (hN h)).1 = 10 then (Mid h (hNew h 9 0 6) ∧ (hS (hNew h 9 0 6) 197).1 = 8) ∧ Ca (d + 40) m_Mo_set [.ref 197, .int x, .long y] (hNew h 9 0 6) (QI fun b h2 => Res n h 2 b.toInt64 h2) else False) := by
    intro hx
    refine ⟨I.room6 hn, ?_⟩
    rw [hS_nw, if_pos rfl, if_pos rfl]
    refine ⟨⟨I.excMid 9, I.exc8 9⟩, w_Mo_set ⟨I.exc8 9, ?_⟩⟩
    rintro _ rfl
    rw [hI_o (by decide), hI_nwne (by omega), V.2.1]
    have k : Ca (d + 39) m_Mo_fail [.ref 197, .int 1] (sI (hNew h 9 0 6) 197 0 0) (QI fun v10 h11 => Res n h 1 v10.toInt64 h11) := by
      refine w_Mo_fail ⟨I.exc8 9, ?_⟩
      rintro _ rfl
      exact Res.exc I 9 (by decide)
    by_cases c0 : x < 0
    · rw [if_pos c0]; exact k
    · rw [if_neg c0, if_pos (hx.resolve_left c0)]; exact k
  by_cases c0 : x < 0
  · rw [if_pos c0]; exact bad (Or.inl c0)
  · rw [if_neg c0]
    refine ⟨I.s2, V.1.1, ?_⟩
    by_cases c1 : iv v < x
    · rw [if_pos c1]; exact bad (Or.inr c1)
    · rw [if_neg c1]
      obtain ⟨c, hc, rfl⟩ := iv_of c0
      have c2 : c ≤ v := by
        by_cases q : v < c
        · exact absurd ((iv_lt (by omega) hc).mpr q) c1
        · omega
      by_cases c3 : c < v
      · rw [if_pos ((iv_lt hc (by omega)).mpr c3)]
        refine c_Lo_replace V.1 c3 y ⟨I.s2, ?_⟩
        rw [hR_sL, e1, hI_sL, m5]
        refine ⟨V.1.1, wr I.s229 ⟨⟨(Mid.of (Sm.sL (by decide))).trans (Mid.of (Sm.sL (by decide))), I.m8⟩, w_Mo_set ⟨I.m8, ?_⟩⟩⟩
        rintro _ rfl
        rw [if_neg c0, hI_o (by decide), hI_sL, hI_sL, V.2.1, if_neg c1, if_neg (fun q => by have := (iv_inj hc (by omega)).mp q; omega)]
        simp only [hR_sI, hR_sL, hS_sI, hS_sL, I.M.r8, I.M.s201]
        rw [iv_clamp hc]
        refine ⟨trivial, by decide, ainr_iv hc (by omega), ?_⟩
        rintro _ rfl
        refine ⟨(Mid.of (Sm.sL (by decide))).trans ((Mid.of (Sm.sL (by decide))).trans ((Mid.of (Sm.sI (by decide))).trans (Mid.of (Sm.sL (by decide))))), ⟨db, cb, ?_⟩, by rw [hI_sL, hI_s], fun _ => ?_⟩
        · have L : Lo h (sL (sI (sL (sL h 8 c y) 229 0 (iv v).toInt64) 197 0 0) 201 c y) := Lo.sL.trans (Lo.sL.trans (Lo.sI.trans Lo.sL))
          refine I.vls L ⟨by show hN h ≤ hN h; omega, by show hN h ≤ _; omega, by show hU h ≤ _; omega⟩ (v := v) ⟨V.1.lo L (by decide) (by decide) (by rw [hI_sL, hI_ne (by decide), hI_sL, hI_sL]), by rw [hI_sL, hI_o (by decide), hI_sL, hI_sL]; exact V.2.1, fun i hi => ?_⟩ (fun a a1 a2 a3 => by rw [hI_sL, hI_ne a3, hI_sL, hI_sL]) (fun j j1 j2 => by rw [hI_sL, hI_o (fun q => j1 q.2), hI_sL, hI_sL]) (fun a a1 a2 a3 => by rw [hL_ne a3, hL_sI, hL_ne (by omega), hL_ne a2]) (fun a a1 => rfl)
          rw [hL_o (by omega), hL_sI, hL_o (by omega), hL_sL, hL_sL, hL_sI, hL_o (by omega), hL_o (by omega)]
          by_cases e : i = c
          · rw [if_pos ⟨rfl, e⟩, if_pos ⟨rfl, e⟩]
          · rw [if_neg (fun q => e q.2), if_neg (fun q => e q.2)]; exact V.2.2 i hi
        · rw [hL_o (by omega), hL_sI, hL_s, hI_sL, hI_o (by decide), hI_sL, hI_sL, V.2.1]
      · rw [if_neg (fun q => c3 ((iv_lt hc (by omega)).mp q))]
        have c4 : c = v := by omega
        subst c4
        refine c_Lo_append V.1 y (fun q => ?_) (fun q => ?_)
        · rw [if_pos rfl]
          refine ⟨I.room6 hn, ?_⟩
          rw [hS_nw, if_pos rfl, if_neg (by decide), if_pos rfl]
          refine ⟨⟨I.excMid 10, I.exc8 10⟩, w_Mo_set ⟨I.exc8 10, ?_⟩⟩
          rintro _ rfl
          rw [hI_o (by decide), hI_nwne (by omega), V.2.1, if_neg c0, if_neg c1, if_pos rfl, if_pos (by rw [q]; rfl)]
          refine w_Mo_fail ⟨I.exc8 10, ?_⟩
          rintro _ rfl
          exact Res.exc I 10 (by decide)
        · rw [if_neg (by decide)]
          refine ⟨I.s2, ?_⟩
          rw [hR_sI, hR_sL, e1, hI_s]
          refine ⟨V.1.1, wr I.s229 ⟨⟨(Mid.of (Sm.sL (by decide))).trans ((Mid.of (Sm.sI (by decide))).trans (Mid.of (Sm.sL (by decide)))), I.m8⟩, w_Mo_set ⟨I.m8, ?_⟩⟩⟩
          rintro _ rfl
          rw [if_neg c0, hI_o (by decide), hI_sL, hI_o (by decide), hI_sL, V.2.1, if_neg c1, if_pos rfl, if_neg (fun e => by have := (iv_inj hc (by omega : 160 < 2 ^ 31)).mp e; omega)]
          rintro _ rfl
          simp only [hR_sI, hR_sL, hS_sI, hS_sL, I.M.r8, I.M.s201]
          rw [iv_clamp hc, iv1, iv_add]
          refine ⟨trivial, by decide, ainr_iv hc (by omega), ?_⟩
          rintro _ rfl
          refine ⟨(Mid.of (Sm.sL (by decide))).trans ((Mid.of (Sm.sI (by decide))).trans ((Mid.of (Sm.sL (by decide))).trans ((Mid.of (Sm.sI (by decide))).trans ((Mid.of (Sm.sI (by decide))).trans (Mid.of (Sm.sL (by decide))))))), ⟨db, cb, ?_⟩, by rw [hI_sL, hI_o (by decide), hI_s], fun _ => ?_⟩
          · have L : Lo h (sL (sI (sI (sL (sI (sL h 8 c y) 7 1 (iv (c + 1))) 229 0 (iv (c + 1)).toInt64) 197 0 0) 197 9 (iv (c + 1))) 201 c y) := Lo.sL.trans (Lo.sI.trans (Lo.sL.trans (Lo.sI.trans (Lo.sI.trans Lo.sL))))
            refine I.vls L ⟨by show hN h ≤ hN h; omega, by show hN h ≤ _; omega, by show hU h ≤ _; omega⟩ (v := c + 1) ⟨V.1.len L (by decide) (by decide) (by rw [hI_sL, hI_ne (by decide), hI_ne (by decide), hI_sL, hI_s]) (by omega), by rw [hI_sL, hI_s], fun i hi => ?_⟩ (fun a a1 a2 a3 => by rw [hI_sL, hI_ne a3, hI_ne a3, hI_sL, hI_ne a2, hI_sL]) (fun j j1 j2 => by rw [hI_sL, hI_o (fun q => j2 q.2), hI_o (fun q => j1 q.2), hI_sL, hI_ne (by decide), hI_sL]) (fun a a1 a2 a3 => by rw [hL_ne a3, hL_sI, hL_sI, hL_ne (by omega), hL_sI, hL_ne a2]) (fun a a1 => rfl)
            rw [hL_o (by omega), hL_sI, hL_sI, hL_o (by omega), hL_sI, hL_sL, hL_sL, hL_sI, hL_sI, hL_o (by omega), hL_sI, hL_o (by omega)]
            by_cases e : i = c
            · rw [if_pos ⟨rfl, e⟩, if_pos ⟨rfl, e⟩]
            · rw [if_neg (fun q => e q.2), if_neg (fun q => e q.2)]; exact V.2.2 i (by omega)
          · rw [hL_o (by omega), hL_sI, hL_sI, hL_s, hI_sL, hI_s]
/-- how 'clear' comes out -/
def Res2 (n : Nat) (h : Hp) (v b : Int32) (h2 : Hp) : Prop := Mid h h2 ∧ (∃ db cb, Inv (n + 1) db cb h2) ∧ v = b
theorem op_clear (I : Inv n db cb h) : Ca (d + 40) m_Ff_clear [.ref 2] h (QI fun v h1 => (Mid h h1 ∧ (hS h1 197).1 = 8) ∧ Ca (d + 40) m_Mo_clear [.ref 197] h1 (QI fun b h2 => Res2 n h v b h2)) := by
  obtain ⟨⟨i1, i2, i3⟩, i4, ⟨⟨t, T⟩, ⟨m, M⟩, ⟨v, V⟩, ⟨b, B⟩, ⟨l, W⟩⟩, F, C⟩ := id I
  have e1 : hR h 2 0 = 3 := i4.1.2.1.1
  refine w_Ff_clear ⟨I.s2, ?_⟩
  rw [e1]
  refine ⟨T.1.1, ?_⟩
  rintro _ rfl
  refine c_By_forgetAll T.1 ⟨⟨Mid.of (Sm.sI (by decide)), I.m8⟩, w_Mo_clear ⟨I.m8, ?_⟩⟩
  rintro _ rfl _ rfl _ rfl
  refine ⟨(Mid.of (Sm.sI (by decide))).trans ((Mid.of (Sm.sI (by decide))).trans (Mid.of (Sm.sI (by decide)))), ⟨db, cb, ?_⟩, ?_⟩
  · have L : Lo h (sI (sI (sI h 3 1 (iv 0)) 197 0 0) 197 2 0) := Lo.sI.trans (Lo.sI.trans Lo.sI)
    exact I.txt L ⟨by show hN h ≤ hN h; omega, by show hN h ≤ _; omega, by show hU h ≤ _; omega⟩ (t := 0) ⟨T.1.len L (by decide) (by decide) (by rw [hI_ne (by decide), hI_ne (by decide), hI_s]) (by omega), by rw [hI_s]; rfl, fun i hi => absurd hi (by omega)⟩ (fun a a1 a2 a3 a4 a5 => by rw [hI_ne a4, hI_ne a4, hI_ne a2]) (fun j j1 j2 => by rw [hI_o (fun q => j2 q.2), hI_o (fun q => j1 q.2), hI_ne (by decide)]) (fun a a1 => rfl) (fun a a1 => rfl)
  · rw [hI_o (by decide), hI_ne (by decide), T.2.1]; exact T.1.2.2.2.2.1
end OPS3
