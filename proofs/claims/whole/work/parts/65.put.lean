section PUT
variable {d n db cb : Nat} {h h' : Hp}
/-- byte k of x -/
def bx (x : Int64) (k : Nat) : Int32 := ((x >>> (((8 : Int32) * iv k).toInt64 &&& 63)).toInt32) &&& (255 : Int32)
/-- the byte as a row keeps it -/
def b8 (x : Int64) (k : Nat) : Int32 := (bx x k).toInt8.toInt32
theorem b8_and (x : Int64) (k : Nat) : b8 x k &&& 255 = bx x k := byte_keep _
/-- the two loops' numbers -/
def shf (r : Nat) : Int32 := iv (8 * r) + (-8)
def dwn (r : Nat) : Int32 := iv r + (-1)
theorem shf_0 : shf 0 < 0 := by decide
theorem shf_s {r : Nat} (h : r < 8) : shf (r + 1) = iv (8 * r) := by
  have : ∀ t : _root_.Fin 8, shf (t.val + 1) = iv (8 * t.val) := by decide +kernel
  exact this ⟨r, h⟩
theorem shf_i {r : Nat} (h : r < 9) : ((8 : Int32) * iv r) - 8 = shf r := by
  have : ∀ t : _root_.Fin 9, ((8 : Int32) * iv t.val) - 8 = shf t.val := by decide +kernel
  exact this ⟨r, h⟩
theorem dwn_0 : dwn 0 < 0 := by decide
theorem dwn_s {r : Nat} (h : r < 9) : dwn (r + 1) = iv r := by
  have : ∀ t : _root_.Fin 9, dwn (t.val + 1) = iv t.val := by decide +kernel
  exact this ⟨r, h⟩
theorem dwn_i {r : Nat} (h : r < 9) : iv r - 1 = dwn r := by
  have : ∀ t : _root_.Fin 9, iv t.val - 1 = dwn t.val := by decide +kernel
  exact this ⟨r, h⟩
/-- all but two addresses -/
def On2 (a b : Nat) (h h' : Hp) : Prop := (∀ c, ¬ c = a → ¬ c = b → Sm h h' c) ∧ hR h' = hR h ∧ hS h' = hS h ∧ hN h' = hN h ∧ hU h' = hU h ∧ hL h' = hL h ∧ hD h' = hD h
theorem On2.refl (a b : Nat) (h : Hp) : On2 a b h h := ⟨fun c _ _ => Sm.refl h c, rfl, rfl, rfl, rfl, rfl, rfl⟩
theorem On2.sI {a b : Nat} {h h' : Hp} (o : On2 a b h h') {c j : Nat} {v : Int32} (hc : c = a ∨ c = b) : On2 a b h (sI h' c j v) := ⟨fun e e1 e2 => (o.1 e e1 e2).trans (Sm.sI (by rcases hc with rfl | rfl <;> assumption)), o.2.1, o.2.2.1, o.2.2.2.1, o.2.2.2.2⟩
theorem On2.trans {a b : Nat} {h h' h'' : Hp} (o : On2 a b h h') (p : On2 a b h' h'') : On2 a b h h'' := ⟨fun e e1 e2 => (o.1 e e1 e2).trans (p.1 e e1 e2), p.2.1.trans o.2.1, p.2.2.1.trans o.2.2.1, p.2.2.2.1.trans o.2.2.2.1, p.2.2.2.2.1.trans o.2.2.2.2.1, p.2.2.2.2.2.1.trans o.2.2.2.2.2.1, p.2.2.2.2.2.2.trans o.2.2.2.2.2.2⟩
theorem put_c {K : Int32 → Hp → Prop} {E : Nat → Hp → Prop} {x : Int64} : ∀ (r m : Nat) (h : Hp) (y3 : Option Value), r ≤ 8 → m + r ≤ 120 → (hS h 2).1 = 7 → hR h 2 1 = 5 → Byt h 5 6 m 120 →
    (∀ h', On2 5 6 h h' → hI h' 5 1 = iv (m + r) → (∀ j, hI h' 6 j = if m ≤ j ∧ j < m + r then b8 x (r - 1 - (j - m)) else hI h 6 j) → K (iv (m + r)) h') → Wp (d + 1) m_Ff_put 51 [some (.ref 2), some (.long x), none, y3, some (.int (shf r))] [] h (QIx K E)
  | 0, m, h, y3, hr, hm, h7, h5, B, k => by
    refine w_Ff_put_51 ?_
    rw [if_pos shf_0, h5]
    refine ⟨h7, B.1, ?_⟩
    rw [B.2.2.2.2.1]
    exact k h (On2.refl _ _ _) B.2.2.2.2.1 (fun j => by rw [if_neg (by omega)])
  | r + 1, m, h, y3, hr, hm, h7, h5, B, k => by
    refine w_Ff_put_51 ?_
    rw [shf_s (by omega), if_neg (iv_neg (by omega))]
    refine ⟨h7, w_Ff_byteOf ?_⟩
    rw [byte_eq x r (by omega), h5]
    refine ⟨B.1, ?_⟩
    refine c_By_append B _ (fun q => by omega) fun _ => ?_
    rintro _ rfl
    have o : On2 5 6 h (sI (sI h 6 m (bx x r).toInt8.toInt32) 5 1 (iv (m + 1))) := ((On2.refl 5 6 h).sI (Or.inr rfl)).sI (Or.inl rfl)
    refine put_c r (m + 1) _ _ (by omega) (by omega) h7 h5 (B.len (fun c _ => ⟨rfl, rfl⟩) (by decide) (by decide) (by rw [hI_s]) (by omega)) fun h' o' e1 e2 => ?_
    rw [show m + 1 + r = m + (r + 1) by omega] at e1 ⊢
    refine k h' (o.trans o') e1 fun j => ?_
    rw [e2 j, hI_o (by omega)]
    by_cases c : j = m
    · subst c
      rw [if_neg (by omega), hI_s, if_pos (by omega), show r + 1 - 1 - (j - j) = r by omega]; rfl
    · rw [hI_o (fun q => c q.2)]
      by_cases q : m ≤ j ∧ j < m + (r + 1)
      · rw [if_pos (by omega), if_pos q, show r - 1 - (j - (m + 1)) = r + 1 - 1 - (j - m) by omega]
      · rw [if_neg (by omega), if_neg q]
theorem put_m {K : Int32 → Hp → Prop} {x : Int64} : ∀ (r m : Nat) (h : Hp) (y3 : Option Value), r ≤ 8 → m + r ≤ 120 → ShM h → hI h 197 7 = iv m →
    (∀ h', On2 197 200 h h' → hI h' 197 7 = iv (m + r) → (∀ j, ¬ j = 7 → hI h' 197 j = hI h 197 j) → (∀ j, hI h' 200 j = if m ≤ j ∧ j < m + r then bx x (r - 1 - (j - m)) else hI h 200 j) → K (iv (m + r)) h') → Wp (d + 1) m_Mo_put 44 [some (.ref 197), some (.long x), none, y3, some (.int (dwn r))] [] h (QI K)
  | 0, m, h, y3, hr, hm, M, h5, k => by
    refine w_Mo_put_44 ?_
    rw [if_pos dwn_0, h5]
    exact ⟨M.o, k h (On2.refl _ _ _) h5 (fun _ _ => rfl) (fun j => by rw [if_neg (by omega)])⟩
  | r + 1, m, h, y3, hr, hm, M, h5, k => by
    refine w_Mo_put_44 ?_
    rw [dwn_s (by omega), if_neg (iv_neg (by omega)), M.r6, M.s200, h5, iv_clamp (by omega)]
    refine ⟨M.o, rfl, by decide, ainr_iv (by omega) (by omega), ?_⟩
    rintro _ rfl _ rfl _ rfl
    rw [hI_o (by omega), h5, iv1, iv_add]
    have o : On2 197 200 h (sI (sI h 200 m (bx x r)) 197 7 (iv (m + 1))) := ((On2.refl 197 200 h).sI (Or.inr rfl)).sI (Or.inl rfl)
    refine put_m r (m + 1) (sI (sI h 200 m (bx x r)) 197 7 (iv (m + 1))) _ (by omega) (by omega) M hI_s fun h' o' e1 e2 e3 => ?_
    rw [show m + 1 + r = m + (r + 1) by omega] at e1 ⊢
    refine k h' (o.trans o') e1 (fun j hj => by rw [e2 j hj, hI_o (fun q => hj q.2), hI_ne (by decide)]) fun j => ?_
    rw [e3 j, hI_ne (by decide)]
    by_cases c : j = m
    · subst c
      rw [if_neg (by omega), hI_s, if_pos (by omega), show r + 1 - 1 - (j - j) = r by omega]
    · rw [hI_o (fun q => c q.2)]
      by_cases q : m ≤ j ∧ j < m + (r + 1)
      · rw [if_pos (by omega), if_pos q, show r - 1 - (j - (m + 1)) = r + 1 - 1 - (j - m) by omega]
      · rw [if_neg (by omega), if_neg q]
theorem op_put (I : Inv n db cb h) (hn : n ≤ 600) (x : Int64) (z : Int32) : Ca (d + 40) m_La_put [.ref 2, .long x, .int z, .ref 229] h (QI fun v h1 => (Mid h h1 ∧ (hS h1 197).1 = 8) ∧ Ca (d + 40) m_Mo_put [.ref 197, .long x, .int z] h1 (QI fun b h2 => Res n h v b.toInt64 h2)) := by
  obtain ⟨⟨i1, i2, i3⟩, i4, ⟨⟨t, T⟩, ⟨m, M⟩, ⟨v, V⟩, ⟨b, B⟩, ⟨l, W⟩⟩, F, C⟩ := id I
  have e1 : hR h 2 1 = 5 := i4.1.2.1.2.1
  have m5 : hI h 5 1 = iv m := M.1.2.2.2.2.1
  have mm : m ≤ 120 := M.1.2.2.2.2.2.1
  have bad : ∀ c, (c = 9 ∨ c = 10) → Ca (d + 40) m_Mo_put [.ref 197, .long x, .int z] (hNew h c 0 6) (QI fun b h2 => Res n h (if c = 9 then 1 else 2) b.toInt64 h2) → room h 6 = true ∧ (if (hS (hNew h c 0 6) (hN h)).1 = 9 then (Mid h (hNew h c 0 6) ∧ (hS (hNew h c 0 6) 197).1 = 8) ∧ Ca (d + 40) m_Mo_put [.ref 197, .long x, .int z] (hNew h c 0 6) (QI fun b h2 => Res n h 1 b.toInt64 h2) else if (hS (hNew h c 0 6) (hN h)).1 = 10 then (Mid h (hNew h c 0 6) ∧ (hS (hNew h c 0 6) 197).1 = 8) ∧ Ca (d + 40) m_Mo_put [.ref 197, .long x, .int z] (hNew h c 0 6) (QI fun b h2 => Res n h 2 b.toInt64 h2) else False) := by
    intro c hc k
    refine ⟨I.room6 hn, ?_⟩
    rw [hS_nw, if_pos rfl]
    rcases hc with rfl | rfl
    · rw [if_pos rfl]; exact ⟨⟨I.excMid 9, I.exc8 9⟩, k⟩
    · rw [if_neg (by decide), if_pos rfl]; exact ⟨⟨I.excMid 10, I.exc8 10⟩, k⟩
  have bad1 : (z < 1 ∨ 8 < z) → Ca (d + 40) m_Mo_put [.ref 197, .long x, .int z] (hNew h 9 0 6) (QI fun b h2 => Res n h (if 9 = 9 then 1 else 2) b.toInt64 h2) := by
    intro hz
    refine w_Mo_put ⟨I.exc8 9, ?_⟩
    rintro _ rfl
    have k : Ca (d + 39) m_Mo_fail [.ref 197, .int 1] (sI (hNew h 9 0 6) 197 0 0) (QI fun v10 h11 => Res n h 1 v10.toInt64 h11) := by
      refine w_Mo_fail ⟨I.exc8 9, ?_⟩
      rintro _ rfl
      exact Res.exc I 9 (by decide)
    by_cases c0 : z < 1
    · rw [if_pos c0]; exact k
    · rw [if_neg c0, if_pos (hz.resolve_left c0)]; exact k
  refine w_La_put ⟨I.s2, w_Ff_put ?_⟩
  by_cases c0 : z < 1
  · rw [if_pos c0]; exact bad 9 (Or.inl rfl) (bad1 (Or.inl c0))
  · rw [if_neg c0]
    by_cases c1 : 8 < z
    · rw [if_pos c1]; exact bad 9 (Or.inl rfl) (bad1 (Or.inr c1))
    · rw [if_neg c1]
      have c2 : ¬ z < 0 := fun q => c0 (by
        rw [Int32.lt_iff_toInt_lt] at q ⊢
        rw [Int32.toInt_zero] at q
        rw [show (1 : Int32).toInt = 1 from rfl]; omega)
      obtain ⟨c, hc, rfl⟩ := iv_of c2
      have c3 : 1 ≤ c := by
        by_cases q : c < 1
        · exact absurd ((iv_lt hc (by omega : 1 < 2 ^ 31)).mpr q) c0
        · omega
      have c4 : c ≤ 8 := by
        by_cases q : 8 < c
        · exact absurd ((iv_lt (by omega : 8 < 2 ^ 31) hc).mpr q) c1
        · omega
      refine ⟨I.s2, ?_⟩
      rw [e1]
      refine ⟨M.1.1, c_By_hasRoomFor M.1 hc ?_⟩
      by_cases c5 : m + c ≤ 120
      · rw [if_pos c5, if_neg (by decide)]
        rintro _ rfl
        rw [shf_i (by omega)]
        refine put_c c m h _ c4 c5 I.s2 e1 M.1 fun h1 o1 f1 f2 => wr (by rw [o1.2.2.1]; exact I.s229) ⟨⟨(Mid.of (o1.1 1 (by decide) (by decide))).trans (Mid.of (Sm.sL (by decide))), by rw [hS_sL, o1.2.2.1]; exact I.m8⟩, w_Mo_put ⟨by rw [hS_sL, o1.2.2.1]; exact I.m8, ?_⟩⟩
        rintro _ rfl
        have q7 : hI (sI (sL h1 229 0 (iv (m + c)).toInt64) 197 0 0) 197 7 = iv m := by rw [hI_o (by decide), hI_sL, (o1.1 197 (by decide) (by decide)).1, M.2.1]
        rw [if_neg c0, if_neg c1, q7, iv_add, if_neg (fun q => by have := (iv_lt (by omega : 120 < 2 ^ 31) (by omega)).mp q; omega)]
        rintro _ rfl
        rw [dwn_i (by omega)]
        have MM : ShM (sI (sL h1 229 0 (iv (m + c)).toInt64) 197 0 0) := I.M.same (by rw [hR_sI, hR_sL, o1.2.1]) (by rw [hS_sI, hS_sL, o1.2.2.1])
        refine put_m c m _ _ c4 c5 MM q7 fun h2 o2 g1 g2 g3 => ?_
        have L : Lo h h2 := fun a _ => ⟨by rw [o2.2.1, hR_sI, hR_sL, o1.2.1], by rw [o2.2.2.1, hS_sI, hS_sL, o1.2.2.1]⟩
        have hi : ∀ a, ¬ a = 5 → ¬ a = 6 → ¬ a = 197 → ¬ a = 200 → hI h2 a = hI h a := fun a a1 a2 a3 a4 => by rw [(o2.1 a a3 a4).1, hI_ne a3, hI_sL, (o1.1 a a1 a2).1]
        refine ⟨⟨by rw [o2.2.2.1, hS_sI, hS_sL, o1.2.2.1], hi 1 (by decide) (by decide) (by decide) (by decide)⟩, ⟨db, cb, ?_⟩, by rw [g2 0 (by decide), hI_s], fun _ => by rw [(o2.1 229 (by decide) (by decide)).2.1, hL_sI, hL_s]⟩
        refine I.msg L ⟨by rw [o2.2.2.2.1, hN_sI, hN_sL, o1.2.2.2.1]; omega, by rw [o2.2.2.2.1, hN_sI, hN_sL, o1.2.2.2.1]; omega, by rw [o2.2.2.2.2.1, hU_sI, hU_sL, o1.2.2.2.2.1]; omega⟩ (m := m + c) ⟨M.1.len L (by decide) (by decide) (by rw [(o2.1 5 (by decide) (by decide)).1, hI_ne (by decide), hI_sL]; exact f1) c5, g1, fun j hj => ?_⟩ (fun a _ => hi a) (fun j j1 j2 => by rw [g2 j j2, hI_o (fun q => j1 q.2), hI_sL, (o1.1 197 (by decide) (by decide)).1]) (fun a a1 => ?_) (fun a a1 => by rw [o2.2.1, hR_sI, hR_sL, o1.2.1])
        · rw [g3 j, (o2.1 6 (by decide) (by decide)).1, hI_ne (by decide), hI_sL, f2 j]
          by_cases q : m ≤ j ∧ j < m + c
          · rw [if_pos q, if_pos q, b8_and]
          · rw [if_neg q, if_neg q, hI_ne (by decide), hI_sL, (o1.1 200 (by decide) (by decide)).1]
            exact M.2.2 j (by omega)
        · rw [o2.2.2.2.2.2.1, hL_sI, hL_ne (by omega), o1.2.2.2.2.2.1]
      · rw [if_neg c5, if_pos rfl]
        refine bad 10 (Or.inr rfl) (w_Mo_put ⟨I.exc8 10, ?_⟩)
        rintro _ rfl
        rw [if_neg c0, if_neg c1, hI_o (by decide), hI_nwne (by omega), M.2.1, iv_add, show (120 : Int32) = iv 120 from rfl, if_pos ((iv_lt (by omega) (by omega)).mpr (by omega))]
        refine w_Mo_fail ⟨I.exc8 10, ?_⟩
        rintro _ rfl
        exact Res.exc I 10 (by decide)
end PUT
