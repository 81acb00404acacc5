section OPS4
variable {d n db cb : Nat} {h h' : Hp}
/-- the heaps differ in the longs of one array alone -/
def OnL (a : Nat) (g0 g : Hp) : Prop := hI g = hI g0 ∧ hR g = hR g0 ∧ hS g = hS g0 ∧ hN g = hN g0 ∧ hU g = hU g0 ∧ (∀ b, ¬ b = a → hL g b = hL g0 b) ∧ hD g = hD g0
theorem OnL.refl (a : Nat) (g : Hp) : OnL a g g := ⟨rfl, rfl, rfl, rfl, rfl, fun _ _ => rfl, rfl⟩
theorem OnL.sL {a : Nat} {g0 g : Hp} (o : OnL a g0 g) (j : Nat) (v : Int64) : OnL a g0 (sL g a j v) := ⟨o.1, o.2.1, o.2.2.1, o.2.2.2.1, o.2.2.2.2.1, fun b hb => by rw [hL_ne hb]; exact o.2.2.2.2.2.1 b hb, o.2.2.2.2.2.2⟩
theorem drop_loop {K : Int32 → Hp → Prop} {i m v : Nat} {g0 : Hp} (M : ShM g0) (hc : hI g0 197 9 = iv v) (hv : v ≤ 160) (him : i + m ≤ v) (kk : ∀ g, OnL 201 g0 g → (∀ j, hL g 201 j = if i ≤ j ∧ j + m < v then hL g0 201 (j + m) else hL g0 201 j) → K (iv (v - m)) (sI g 197 9 (iv (v - m)))) :
    ∀ (r k : Nat) (g : Hp) (y1 : Option Value), k + r = v → i + m ≤ k → OnL 201 g0 g → (∀ j, hL g 201 j = if i ≤ j ∧ j + m < k then hL g0 201 (j + m) else hL g0 201 j) → Wp (d + 1) m_Mo_drop 41 [some (.ref 197), y1, some (.int (iv m)), some (.int (iv k))] [] g (QI K)
  | 0, k, g, y1, e, hk, o, hl => by
    refine w_Mo_drop_41 ⟨by rw [o.2.2.1]; exact M.o, ?_⟩
    rw [o.1, hc, if_neg (fun q => by have := (iv_lt (by omega) (by omega)).mp q; omega)]
    rintro _ rfl
    rw [hI_s, iv_sub (by omega)]
    have : k = v := by omega
    subst this
    exact kk g o hl
  | r + 1, k, g, y1, e, hk, o, hl => by
    refine w_Mo_drop_41 ⟨by rw [o.2.2.1]; exact M.o, ?_⟩
    rw [o.1, hc, if_pos ((iv_lt (by omega) (by omega)).mpr (by omega)), o.2.1, M.r8, o.2.2.1, M.s201, iv_sub (by omega), iv_clamp (by omega), iv_clamp (by omega)]
    refine ⟨rfl, ainr_iv (by omega) (by omega), by decide, ainr_iv (by omega) (by omega), ?_⟩
    rintro _ rfl _ rfl
    rw [iv1, iv_add]
    refine drop_loop M hc hv him kk r (k + 1) _ y1 (by omega) (by omega) (o.sL _ _) fun j => ?_
    have e2 : hL g 201 k = hL g0 201 k := by rw [hl k, if_neg (by omega)]
    rw [e2]
    by_cases c : j = k - m
    · rw [c, hL_s, if_pos (by omega), show k - m + m = k by omega]
    · rw [hL_o (fun q => c q.2), hl j]
      by_cases q : i ≤ j ∧ j + m < k
      · rw [if_pos q, if_pos (by omega)]
      · rw [if_neg q, if_neg (by omega)]
theorem op_drop (I : Inv n db cb h) (hn : n ≤ 600) (x z : Int32) : Ca (d + 40) m_La_drop [.ref 2, .int x, .int z, .ref 229] h (QI fun v h1 => (Mid h h1 ∧ (hS h1 197).1 = 8) ∧ Ca (d + 40) m_Mo_drop [.ref 197, .int x, .int z] h1 (QI fun b h2 => Res n h v b.toInt64 h2)) := by
  obtain ⟨⟨i1, i2, i3⟩, i4, ⟨⟨t, T⟩, ⟨m, M⟩, ⟨v, V⟩, ⟨b, B⟩, ⟨l, W⟩⟩, F, C⟩ := id I
  have e1 : hR h 2 2 = 7 := i4.1.2.1.2.2.1
  have m5 : hI h 7 1 = iv v := V.1.2.2.2.2.1
  have mm : v ≤ 160 := V.1.2.2.2.2.2.1
  refine w_La_drop ⟨I.s2, w_Ff_drop ?_⟩
  rw [e1, m5]
  have bad : (x < 0 ∨ z < 0 ∨ iv v < x ∨ iv v - x < z) → room h 6 = true ∧ (if (hS (hNew h 11 0 6) (hN h)).1 = 11 then (Mid h (hNew h 11 0 6) ∧ (hS (hNew h 11 0 6) 197).1 = 8) ∧ Ca (d + 40) m_Mo_drop [.ref 197, .int x, .int z] (hNew h 11 0 6) (QI fun b h2 => Res n h 1 b.toInt64 h2) else False) := by
    intro hx
    refine ⟨I.room6 hn, ?_⟩
    rw [hS_nw, if_pos rfl, if_pos rfl]
    refine ⟨⟨I.excMid 11, I.exc8 11⟩, w_Mo_drop ⟨I.exc8 11, ?_⟩⟩
    rintro _ rfl
    rw [hI_o (by decide), hI_nwne (by omega), V.2.1]
    have k : Ca (d + 39) m_Mo_fail [.ref 197, .int 1] (sI (hNew h 11 0 6) 197 0 0) (QI fun v10 h11 => Res n h 1 v10.toInt64 h11) := by
      refine w_Mo_fail ⟨I.exc8 11, ?_⟩
      rintro _ rfl
      exact Res.exc I 11 (by decide)
    by_cases c0 : x < 0
    · rw [if_pos c0]; exact k
    · rw [if_neg c0]
      by_cases c1 : z < 0
      · rw [if_pos c1]; exact k
      · rw [if_neg c1]
        by_cases c2 : iv v < x
        · rw [if_pos c2]; exact k
        · rw [if_neg c2, if_pos (((hx.resolve_left c0).resolve_left c1).resolve_left c2)]; exact k
  by_cases c0 : x < 0
  · rw [if_pos c0]; exact bad (Or.inl c0)
  · rw [if_neg c0]
    by_cases c1 : z < 0
    · rw [if_pos c1]; exact bad (Or.inr (Or.inl c1))
    · rw [if_neg c1]
      refine ⟨I.s2, V.1.1, ?_⟩
      by_cases c2 : iv v < x
      · rw [if_pos c2]; exact bad (Or.inr (Or.inr (Or.inl c2)))
      · rw [if_neg c2]
        by_cases c3 : iv v - x < z
        · rw [if_pos c3]; exact bad (Or.inr (Or.inr (Or.inr c3)))
        · rw [if_neg c3]
          obtain ⟨i, hi, rfl⟩ := iv_of c0
          obtain ⟨r, hr, rfl⟩ := iv_of c1
          have c4 : i ≤ v := by
            by_cases q : v < i
            · exact absurd ((iv_lt (by omega) hi).mpr q) c2
            · omega
          have c5 : i + r ≤ v := by
            rw [iv_sub c4] at c3
            by_cases q : v - i < r
            · exact absurd ((iv_lt (by omega) hr).mpr q) c3
            · omega
          refine c_Lo_takeOut V.1 c5 ⟨I.s2, ?_⟩
          rw [hR_sI, hR_cL, e1, hI_s]
          refine ⟨V.1.1, wr I.s229 ⟨⟨(Mid.of (Sm.cL (by decide))).trans ((Mid.of (Sm.sI (by decide))).trans (Mid.of (Sm.sL (by decide)))), I.m8⟩, w_Mo_drop ⟨I.m8, ?_⟩⟩⟩
          rintro _ rfl
          have q9 : hI (sI (sL (sI (cL h 8 (i + r) 8 i (v - i - r)) 7 1 (iv (v - r))) 229 0 (iv (v - r)).toInt64) 197 0 0) 197 9 = iv v := by
            rw [hI_o (by decide), hI_sL, hI_ne (by decide), hI_cL, V.2.1]
          rw [if_neg c0, if_neg c1, q9, if_neg c2, if_neg c3]
          rintro _ rfl
          rw [iv_add]
          have MM : ShM (sI (sL (sI (cL h 8 (i + r) 8 i (v - i - r)) 7 1 (iv (v - r))) 229 0 (iv (v - r)).toInt64) 197 0 0) := I.M
          refine drop_loop MM q9 mm c5 (fun g o hl => ?_) (v - (i + r)) (i + r) _ _ (by omega) (by omega) (OnL.refl _ _) (fun j => by rw [if_neg (by omega)])
          obtain ⟨o1, o2, o3, o4, o5, o6, o7⟩ := o
          have L : Lo h (sI g 197 9 (iv (v - r))) := fun c _ => ⟨by rw [hR_sI, o2]; rfl, by rw [hS_sI, o3]; rfl⟩
          have hi' : ∀ a, ¬ a = 7 → ¬ a = 197 → hI (sI g 197 9 (iv (v - r))) a = hI h a := fun a a1 a2 => by rw [hI_ne a2, o1, hI_ne a2, hI_sL, hI_ne a1, hI_cL]
          refine ⟨⟨by rw [hS_sI, o3]; rfl, hi' 1 (by decide) (by decide)⟩, ⟨db, cb, ?_⟩, by rw [hI_o (by decide), o1, hI_s], fun _ => by rw [hL_sI, o6 229 (by decide), hL_sI, hL_s]⟩
          refine I.vls L ⟨by rw [hN_sI, o4]; show hN h ≤ hN h; omega, by rw [hN_sI, o4]; show hN h ≤ _; omega, by rw [hU_sI, o5]; show hU h ≤ _; omega⟩ (v := v - r) ⟨V.1.len L (by decide) (by decide) (by rw [hI_ne (by decide), o1, hI_ne (by decide), hI_sL, hI_s]) (by omega), hI_s, fun j hj => ?_⟩ (fun a _ a2 a3 => hi' a a2 a3) (fun j j1 j2 => by rw [hI_o (fun q => j2 q.2), o1, hI_o (fun q => j1 q.2), hI_sL, hI_ne (by decide), hI_cL]) (fun a a1 a2 a3 => by rw [hL_sI, o6 a a3, hL_sI, hL_ne (by omega), hL_sI]; funext q; rw [hL_cL, if_neg (fun e => a2 e.1)]) (fun a a1 => by rw [hR_sI, o2]; rfl)
          have g201 : ∀ q, hL (sI (sL (sI (cL h 8 (i + r) 8 i (v - i - r)) 7 1 (iv (v - r))) 229 0 (iv (v - r)).toInt64) 197 0 0) 201 q = hL h 201 q := fun q => by rw [hL_sI, hL_o (by omega), hL_sI, hL_cL, if_neg (by omega)]
          rw [hL_sI, hl j, g201, g201, o6 8 (by decide), hL_sI, hL_o (by omega), hL_sI, hL_cL]
          by_cases q : i ≤ j
          · rw [if_pos ⟨rfl, q, by omega⟩, if_pos ⟨q, by omega⟩, show i + r + (j - i) = j + r by omega]
            exact V.2.2 _ (by omega)
          · rw [if_neg (by omega), if_neg (by omega)]
            exact V.2.2 _ (by omega)
end OPS4
