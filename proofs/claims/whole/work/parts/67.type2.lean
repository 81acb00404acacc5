section TYP2
variable {d n db cb : Nat} {h h' : Hp}
theorem op_type (I : Inv n db cb h) (hn : n ≤ 600) (p : Int64) : Ca (d + 40) m_La_type [.ref 2, .long p, .ref 229] h (QI fun v h1 => (Mid h h1 ∧ (hS h1 197).1 = 8) ∧ Ca (d + 40) m_Mo_type [.ref 197, .long p] h1 (QI fun b h2 => Res n h v b.toInt64 h2)) := by
  obtain ⟨⟨i1, i2, i3⟩, i4, ⟨⟨t, T⟩, ⟨m, M⟩, ⟨v, V⟩, ⟨b, B⟩, ⟨l, W⟩⟩, F, C⟩ := id I
  have e1 : hR h 2 0 = 3 := i4.1.2.1.1
  have m5 : hI h 3 1 = iv t := T.1.2.2.2.2.1
  have mm : t ≤ 90 := T.1.2.2.2.2.2.1
  have cl := cn_le p 8
  have z56 : (56 : Int32) = shf 8 := by decide
  refine w_La_type ⟨I.s2, w_Ff_type ?_⟩
  rw [z56]
  refine ty_c1 (I.room6 hn) 8 0 _ (by omega) (by omega) (fun ha y => ?_) (fun ha => ?_)
  · rw [e1, Nat.zero_add]
    refine ⟨I.s2, T.1.1, c_By_hasRoomFor T.1 (by omega) ?_⟩
    by_cases c5 : t + cn p 8 ≤ 90
    · rw [if_pos c5, if_neg (by decide), z56]
      refine ty_c2 8 t h _ _ (by omega) c5 I.s2 e1 T.1 fun h1 o1 f1 f2 => wr (by rw [o1.2.2.1]; exact I.s229) ⟨⟨(Mid.of (o1.1 1 (by decide) (by decide))).trans (Mid.of (Sm.sL (by decide))), by rw [hS_sL, o1.2.2.1]; exact I.m8⟩, w_Mo_type ⟨by rw [hS_sL, o1.2.2.1]; exact I.m8, ?_⟩⟩
      rintro _ rfl
      have q7 : hI (sI (sL h1 229 0 (iv (t + cn p 8)).toInt64) 197 0 0) 197 2 = iv t := by rw [hI_o (by decide), hI_sL, (o1.1 197 (by decide) (by decide)).1, T.2.1]
      have MM : ShM (sI (sL h1 229 0 (iv (t + cn p 8)).toInt64) 197 0 0) := I.M.same (by rw [hR_sI, hR_sL, o1.2.1]) (by rw [hS_sI, hS_sL, o1.2.2.1])
      refine ty_m1 MM 8 0 0 _ rfl (by omega) rfl (fun _ y2 => ?_) (fun hb => absurd (fun k hk _ => ha k hk) hb)
      rw [q7, iv_add, if_neg (fun q => by have := (iv_lt (by omega : 90 < 2 ^ 31) (by omega)).mp q; omega), show (7 : Int32) = dwn 8 from by decide]
      refine ty_m2 8 t _ _ _ (by omega) c5 MM q7 fun h2 o2 g1 g2 g3 => ?_
      have L : Lo h h2 := fun a _ => ⟨by rw [o2.2.1, hR_sI, hR_sL, o1.2.1], by rw [o2.2.2.1, hS_sI, hS_sL, o1.2.2.1]⟩
      have hi : ∀ a, ¬ a = 3 → ¬ a = 4 → ¬ a = 197 → ¬ a = 198 → hI h2 a = hI h a := fun a a1 a2 a3 a4 => by rw [(o2.1 a a3 a4).1, hI_ne a3, hI_sL, (o1.1 a a1 a2).1]
      refine ⟨⟨by rw [o2.2.2.1, hS_sI, hS_sL, o1.2.2.1], hi 1 (by decide) (by decide) (by decide) (by decide)⟩, ⟨db, cb, ?_⟩, by rw [g2 0 (by decide), hI_s], fun _ => by rw [(o2.1 229 (by decide) (by decide)).2.1, hL_sI, hL_s]⟩
      refine I.txt L ⟨by rw [o2.2.2.2.1, hN_sI, hN_sL, o1.2.2.2.1]; omega, by rw [o2.2.2.2.1, hN_sI, hN_sL, o1.2.2.2.1]; omega, by rw [o2.2.2.2.2.1, hU_sI, hU_sL, o1.2.2.2.2.1]; omega⟩ (t := t + cn p 8) ⟨T.1.len L (by decide) (by decide) (by rw [(o2.1 3 (by decide) (by decide)).1, hI_ne (by decide), hI_sL]; exact f1) c5, g1, fun j hj => ?_⟩ (fun a _ => hi a) (fun j j1 j2 => by rw [g2 j j2, hI_o (fun q => j1 q.2), hI_sL, (o1.1 197 (by decide) (by decide)).1]) (fun a a1 => by rw [o2.2.2.2.2.2.1, hL_sI, hL_ne (by omega), o1.2.2.2.2.2.1]) (fun a a1 => by rw [o2.2.1, hR_sI, hR_sL, o1.2.1])
      rw [g3 j, (o2.1 4 (by decide) (by decide)).1, hI_ne (by decide), hI_sL, f2 j]
      refine sq_rel p 8 t _ _ (fun i hi' => ?_) j hj
      rw [hI_ne (by decide), hI_sL, (o1.1 198 (by decide) (by decide)).1]
      exact T.2.2 i hi'
    · rw [if_neg c5, if_pos rfl]
      refine ⟨I.room6 hn, ?_⟩
      rw [hS_nw, if_pos rfl, if_neg (by decide), if_pos rfl]
      refine ⟨⟨I.excMid 10, I.exc8 10⟩, w_Mo_type ⟨I.exc8 10, ?_⟩⟩
      rintro _ rfl
      have MM : ShM (sI (hNew h 10 0 6) 197 0 0) := I.M.mono fun c c1 c2 => ⟨by rw [hR_sI, hR_nwne (by omega)], by rw [hS_sI, hS_nw, if_neg (by omega)]⟩
      refine ty_m1 MM 8 0 0 _ rfl (by omega) rfl (fun _ y2 => ?_) (fun hb => absurd (fun k hk _ => ha k hk) hb)
      rw [hI_o (by decide), hI_nwne (by omega), T.2.1, iv_add, show (90 : Int32) = iv 90 from rfl, if_pos ((iv_lt (by omega) (by omega)).mpr (by omega))]
      refine w_Mo_fail ⟨I.exc8 10, ?_⟩
      rintro _ rfl
      exact Res.exc I 10 (by decide)
  · rw [hS_nw, if_pos rfl, if_pos rfl]
    refine ⟨⟨I.excMid 9, I.exc8 9⟩, w_Mo_type ⟨I.exc8 9, ?_⟩⟩
    rintro _ rfl
    have MM : ShM (sI (hNew h 9 0 6) 197 0 0) := I.M.mono fun c c1 c2 => ⟨by rw [hR_sI, hR_nwne (by omega)], by rw [hS_sI, hS_nw, if_neg (by omega)]⟩
    refine ty_m1 MM 8 0 0 _ rfl (by omega) rfl (fun hb => absurd (fun k hk => hb k hk (by omega)) ha) (fun _ => ?_)
    refine w_Mo_fail ⟨I.exc8 9, ?_⟩
    rintro _ rfl
    exact Res.exc I 9 (by decide)
end TYP2
