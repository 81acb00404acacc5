section TYP
variable {d n db cb : Nat} {h h' : Hp}
def okb (p : Int64) (k : Nat) : Prop := bx p k = 0 ∨ (¬ bx p k < 33 ∧ ¬ 126 < bx p k)
def cn (p : Int64) : Nat → Nat
  | 0 => 0
  | r + 1 => cn p r + (if bx p r = 0 then 0 else 1)
theorem cn_z {p : Int64} {r : Nat} (c : bx p r = 0) : cn p (r + 1) = cn p r := by show cn p r + (if bx p r = 0 then 0 else 1) = _; rw [if_pos c]; rfl
theorem cn_n {p : Int64} {r : Nat} (c : ¬ bx p r = 0) : cn p (r + 1) = cn p r + 1 := by show cn p r + (if bx p r = 0 then 0 else 1) = _; rw [if_neg c]
theorem byte_bx (x : Int64) (k : Nat) (hk : k < 8) : ((((x.toUInt64 >>> ((iv (8 * k)).toInt64.toUInt64 &&& Int64.toUInt64 63)).toInt64).toInt32) &&& (255 : Int32)) = bx x k := byte_eq x k hk
theorem cn_le (p : Int64) : ∀ r, cn p r ≤ r
  | 0 => Nat.le_refl 0
  | r + 1 => by
    have := cn_le p r
    by_cases c : bx p r = 0
    · rw [cn_z c]; omega
    · rw [cn_n c]; omega
/-- what the second loop lays down -/
def sq (u : Int32 → Int32) (p : Int64) : Nat → Nat → (Nat → Int32) → Nat → Int32
  | 0, _, f => f
  | r + 1, m, f => if bx p r = 0 then sq u p r m f else sq u p r (m + 1) (fun j => if j = m then u (bx p r) else f j)
theorem sq_rel (p : Int64) : ∀ (r m : Nat) (f g : Nat → Int32), (∀ i, i < m → f i &&& 255 = g i) → ∀ j, j < m + cn p r → sq (fun y => y.toInt8.toInt32) p r m f j &&& 255 = sq (fun y => y) p r m g j
  | 0, m, f, g, hfg, j, hj => hfg j hj
  | r + 1, m, f, g, hfg, j, hj => by
    by_cases c : bx p r = 0
    · rw [cn_z c] at hj
      rw [sq, if_pos c, sq, if_pos c]
      exact sq_rel p r m f g hfg j hj
    · rw [cn_n c] at hj
      rw [sq, if_neg c, sq, if_neg c]
      refine sq_rel p r (m + 1) _ _ (fun i hi => ?_) j (by omega)
      by_cases e : i = m
      · rw [if_pos e, if_pos e]; exact byte_keep _
      · rw [if_neg e, if_neg e]; exact hfg i (by omega)
theorem ty_c1 {K : Int32 → Hp → Prop} {E : Nat → Hp → Prop} {p : Int64} {h : Hp} (hr6 : room h 6 = true) : ∀ (r c : Nat) (y5 : Option Value), r ≤ 8 → c + r ≤ 8 →
    ((∀ k, k < r → okb p k) → ∀ y : Option Value, (hS h 2).1 = 7 ∧ (hS h (hR h 2 0)).1 = 0 ∧ Ca d m_By_hasRoomFor [.ref (hR h 2 0), .int (iv (c + cn p r))] h (QI fun v3 h4 => if v3 = 0 then room h4 6 = true ∧ E (hN h4) (hNew h4 10 0 6) else Wp (d + 1) m_Ff_type 92 [some (.ref 2), some (.long p), none, some (.int (iv (c + cn p r))), some (.int 56), y] [] h4 (QIx K E))) →
    (¬ (∀ k, k < r → okb p k) → E (hN h) (hNew h 9 0 6)) → Wp (d + 1) m_Ff_type 6 [some (.ref 2), some (.long p), none, some (.int (iv c)), some (.int (shf r)), y5] [] h (QIx K E)
  | 0, c, y5, hr, hc, k1, k2 => by
    refine w_Ff_type_6 ?_
    rw [if_pos shf_0]
    exact k1 (fun k hk => absurd hk (by omega)) y5
  | r + 1, c, y5, hr, hc, k1, k2 => by
    refine w_Ff_type_6 ?_
    rw [shf_s (by omega), if_neg (iv_neg (by omega))]
    refine w_Ff_byteOf ?_
    rw [byte_bx p r (by omega)]
    have ih : ∀ c', c' + r ≤ 8 → okb p r → c' + cn p r = c + cn p (r + 1) → ∀ y, Wp (d + 1) m_Ff_type 6 [some (.ref 2), some (.long p), none, some (.int (iv c')), some (.int (shf r)), y] [] h (QIx K E) := by
      intro c' hc' hok e y
      refine ty_c1 hr6 r c' y (by omega) hc' (fun ha => ?_) (fun ha => k2 fun hb => ha fun k hk => hb k (by omega))
      rw [e]
      exact k1 fun k hk => by
        by_cases q : k = r
        · subst q; exact hok
        · exact ha k (by omega)
    by_cases c0 : bx p r = 0
    · rw [if_pos c0]
      refine w_Ff_type_48 ?_
      rw [if_pos c0]
      rintro _ rfl _ rfl
      rw [iv0, iv_add]
      exact ih (c + 0) (by omega) (Or.inl c0) (by rw [cn_z c0]; omega) _
    · rw [if_neg c0]
      by_cases c1 : bx p r < 33
      · rw [if_pos c1]
        exact ⟨hr6, k2 fun ha => by rcases ha r (by omega) with q | q; exact c0 q; exact q.1 c1⟩
      · rw [if_neg c1]
        by_cases c2 : 126 < bx p r
        · rw [if_pos c2]
          exact ⟨hr6, k2 fun ha => by rcases ha r (by omega) with q | q; exact c0 q; exact q.2 c2⟩
        · rw [if_neg c2]
          refine w_Ff_type_48 ?_
          rw [if_neg c0]
          rintro _ rfl _ rfl
          rw [iv1, iv_add]
          exact ih (c + 1) (by omega) (Or.inr ⟨c1, c2⟩) (by rw [cn_n c0]; omega) _
theorem ty_c2 {K : Int32 → Hp → Prop} {E : Nat → Hp → Prop} {p : Int64} : ∀ (r m : Nat) (h : Hp) (y3 y5 : Option Value), r ≤ 8 → m + cn p r ≤ 90 → (hS h 2).1 = 7 → hR h 2 0 = 3 → Byt h 3 4 m 90 →
    (∀ h', On2 3 4 h h' → hI h' 3 1 = iv (m + cn p r) → (∀ j, hI h' 4 j = sq (fun y => y.toInt8.toInt32) p r m (hI h 4) j) → K (iv (m + cn p r)) h') → Wp (d + 1) m_Ff_type 92 [some (.ref 2), some (.long p), none, y3, some (.int (shf r)), y5] [] h (QIx K E)
  | 0, m, h, y3, y5, hr, hm, h7, h5, B, k => by
    refine w_Ff_type_92 ?_
    rw [if_pos shf_0, h5]
    refine ⟨h7, B.1, ?_⟩
    rw [B.2.2.2.2.1]
    exact k h (On2.refl _ _ _) B.2.2.2.2.1 (fun j => rfl)
  | r + 1, m, h, y3, y5, hr, hm, h7, h5, B, k => by
    refine w_Ff_type_92 ?_
    rw [shf_s (by omega), if_neg (iv_neg (by omega))]
    refine w_Ff_byteOf ?_
    rw [byte_bx p r (by omega)]
    by_cases c0 : bx p r = 0
    · rw [if_pos c0]
      rintro _ rfl
      have e := cn_z c0
      rw [e] at hm k
      refine ty_c2 r m h _ _ (by omega) hm h7 h5 B fun h' o e1 e2 => k h' o e1 fun j => ?_
      rw [e2 j]; show _ = sq _ p (r + 1) m _ j; rw [sq, if_pos c0]
    · rw [if_neg c0]
      have e := cn_n c0
      rw [e] at hm k
      refine ⟨h7, ?_⟩
      rw [h5]
      refine ⟨B.1, c_By_append B _ (fun q => by omega) fun _ => ?_⟩
      rintro _ rfl
      have o : On2 3 4 h (sI (sI h 4 m (bx p r).toInt8.toInt32) 3 1 (iv (m + 1))) := ((On2.refl 3 4 h).sI (Or.inr rfl)).sI (Or.inl rfl)
      refine ty_c2 r (m + 1) _ _ _ (by omega) (by omega) h7 h5 (B.len (fun c _ => ⟨rfl, rfl⟩) (by decide) (by decide) (by rw [hI_s]) (by omega)) fun h' o' e1 e2 => ?_
      rw [show m + 1 + cn p r = m + (cn p r + 1) by omega] at e1 ⊢
      refine k h' (o.trans o') e1 fun j => ?_
      rw [e2 j]; show _ = sq _ p (r + 1) m _ j
      rw [sq, if_neg c0]
      congr 1
      funext q
      rw [hI_ne (by decide), hI_sI]
      by_cases eq : q = m
      · rw [if_pos eq, if_pos ⟨rfl, eq⟩]
      · rw [if_neg eq, if_neg (fun z => eq z.2)]
theorem ty_m1 {K : Int32 → Hp → Prop} {p : Int64} {g : Hp} (M : ShM g) : ∀ (r j c : Nat) (y5 : Option Value), j + r = 8 → c ≤ j → c = cn p j →
    ((∀ k, k < 8 → j ≤ k → okb p k) → ∀ y : Option Value, if (90 : Int32) < hI g 197 2 + iv (cn p 8) then Ca d m_Mo_fail [.ref 197, .int 2] g (QI fun v h' => K v h') else Wp (d + 1) m_Mo_type 96 [some (.ref 197), some (.long p), none, some (.int (iv (cn p 8))), some (.int 7), y] [] g (QI K)) →
    (¬ (∀ k, k < 8 → j ≤ k → okb p k) → Ca d m_Mo_fail [.ref 197, .int 1] g (QI fun v h' => K v h')) → Wp (d + 1) m_Mo_type 10 [some (.ref 197), some (.long p), none, some (.int (iv c)), some (.int (iv j)), y5] [] g (QI K)
  | 0, j, c, y5, hj, hc, ec, k1, k2 => by
    have : j = 8 := by omega
    subst this
    refine w_Mo_type_10 ?_
    rw [show (8 : Int32) = iv 8 from rfl, if_neg (fun q => by have := (iv_lt (by omega) (by omega)).mp q; omega)]
    subst ec
    exact ⟨M.o, k1 (fun k hk hk' => absurd hk (by omega)) y5⟩
  | r + 1, j, c, y5, hj, hc, ec, k1, k2 => by
    refine w_Mo_type_10 ?_
    have e8 : iv j < (8 : Int32) := (iv_lt (by omega) (by omega : 8 < 2 ^ 31)).mpr (by omega)
    rw [if_pos e8]
    rw [show (((p >>> (((8 : Int32) * iv j).toInt64 &&& 63)).toInt32) &&& (255 : Int32)) = bx p j from rfl]
    rintro _ rfl
    have ih : ∀ c', c' ≤ j + 1 → okb p j → c' = cn p (j + 1) → ∀ y, Wp (d + 1) m_Mo_type 10 [some (.ref 197), some (.long p), none, some (.int (iv c')), some (.int (iv (j + 1))), y] [] g (QI K) := by
      intro c' hc' hok e y
      refine ty_m1 M r (j + 1) c' y (by omega) hc' e (fun ha => k1 fun k hk hk' => ?_) (fun ha => k2 fun hb => ha fun k hk hk' => hb k hk (by omega))
      by_cases q : k = j
      · subst q; exact hok
      · exact ha k hk (by omega)
    by_cases c0 : bx p j = 0
    · rw [if_pos c0]
      refine w_Mo_type_56 ?_
      rw [if_pos c0]
      rintro _ rfl _ rfl
      rw [iv0, iv_add, iv1, iv_add]
      exact ih (c + 0) (by omega) (Or.inl c0) (by rw [cn_z c0, ec]; rfl) _
    · rw [if_neg c0]
      by_cases c1 : bx p j < 33
      · rw [if_pos c1]
        exact ⟨M.o, k2 fun ha => by rcases ha j (by omega) (by omega) with q | q; exact c0 q; exact q.1 c1⟩
      · rw [if_neg c1]
        by_cases c2 : 126 < bx p j
        · rw [if_pos c2]
          exact ⟨M.o, k2 fun ha => by rcases ha j (by omega) (by omega) with q | q; exact c0 q; exact q.2 c2⟩
        · rw [if_neg c2]
          refine w_Mo_type_56 ?_
          rw [if_neg c0]
          rintro _ rfl _ rfl
          rw [iv1, iv_add, iv_add]
          exact ih (c + 1) (by omega) (Or.inr ⟨c1, c2⟩) (by rw [cn_n c0, ec]) _
theorem ty_m2 {K : Int32 → Hp → Prop} {p : Int64} : ∀ (r m : Nat) (g : Hp) (y3 y5 : Option Value), r ≤ 8 → m + cn p r ≤ 90 → ShM g → hI g 197 2 = iv m →
    (∀ g', On2 197 198 g g' → hI g' 197 2 = iv (m + cn p r) → (∀ j, ¬ j = 2 → hI g' 197 j = hI g 197 j) → (∀ j, hI g' 198 j = sq (fun y => y) p r m (hI g 198) j) → K (iv (m + cn p r)) g') → Wp (d + 1) m_Mo_type 96 [some (.ref 197), some (.long p), none, y3, some (.int (dwn r)), y5] [] g (QI K)
  | 0, m, g, y3, y5, hr, hm, M, h5, k => by
    refine w_Mo_type_96 ?_
    rw [if_pos dwn_0, h5]
    exact ⟨M.o, k g (On2.refl _ _ _) h5 (fun _ _ => rfl) (fun j => rfl)⟩
  | r + 1, m, g, y3, y5, hr, hm, M, h5, k => by
    refine w_Mo_type_96 ?_
    rw [dwn_s (by omega), if_neg (iv_neg (by omega))]
    rw [show (((p >>> (((8 : Int32) * iv r).toInt64 &&& 63)).toInt32) &&& (255 : Int32)) = bx p r from rfl]
    rintro _ rfl
    by_cases c0 : bx p r = 0
    · rw [if_pos c0]
      rintro _ rfl
      have e := cn_z c0
      rw [e] at hm k
      refine ty_m2 r m g _ _ (by omega) hm M h5 fun h' o e1 e2 e3 => k h' o e1 e2 fun j => ?_
      rw [e3 j]; show _ = sq _ p (r + 1) m _ j; rw [sq, if_pos c0]
    · rw [if_neg c0, M.r1, M.s198, h5, iv_clamp (by omega)]
      have e := cn_n c0
      rw [e] at hm k
      refine ⟨M.o, rfl, by decide, ainr_iv (by omega) (by omega), ?_⟩
      rintro _ rfl _ rfl _ rfl
      rw [hI_o (by omega), h5, iv1, iv_add]
      have o : On2 197 198 g (sI (sI g 198 m (bx p r)) 197 2 (iv (m + 1))) := ((On2.refl 197 198 g).sI (Or.inr rfl)).sI (Or.inl rfl)
      refine ty_m2 r (m + 1) (sI (sI g 198 m (bx p r)) 197 2 (iv (m + 1))) _ _ (by omega) (by omega) M hI_s fun h' o' e1 e2 e3 => ?_
      rw [show m + 1 + cn p r = m + (cn p r + 1) by omega] at e1 ⊢
      refine k h' (o.trans o') e1 (fun j hj => by rw [e2 j hj, hI_o (fun q => hj q.2), hI_ne (by decide)]) fun j => ?_
      rw [e3 j]; show _ = sq _ p (r + 1) m _ j
      rw [sq, if_neg c0]
      congr 1
      funext q
      rw [hI_ne (by decide), hI_sI]
      by_cases eq : q = m
      · rw [if_pos eq, if_pos ⟨rfl, eq⟩]
      · rw [if_neg eq, if_neg (fun z => eq z.2)]
end TYP
