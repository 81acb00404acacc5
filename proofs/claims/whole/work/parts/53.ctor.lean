/-! the class's constructor -/
section FFI
variable {d : Nat} {h : Hp} {n : Nat}
/-- what a stage of it leaves: a new thing at n, named by field j of 2 -/
def Stg (h h' : Hp) (n m u j : Nat) : Prop := hN h' = n + m ∧ hU h' = hU h + u ∧ (hS h' 2).1 = 7 ∧ hR h' 2 j = n ∧ (∀ i, ¬ i = j → hR h' 2 i = hR h 2 i) ∧ (∀ c, ¬ c = 2 → c < n → Sm h h' c)
theorem sgB {REST : Hp → Prop} {cap j : Nat} (hn : hN h = n) (h3 : 3 ≤ n) (h7 : (hS h 2).1 = 7) (hc : cap < 2000) (r1 : n + 2 ≤ capN) (r2 : hU h + 2 + cap ≤ capU) (k : ∀ h', Stg h h' n 2 (2 + cap) j → Byt h' n (n + 1) 0 cap → REST h') :
    room h 2 = true ∧ ∀ a : Nat, a = hN h → ∀ h4 : Hp, h4 = hNew h 0 0 2 → (hS h4 a).1 = 0 ∧ Ca d m_By_init [.ref a, .int (iv cap)] h4 (QV (fun h7 => (hS h7 2).1 = 7 ∧ ∀ h10 : Hp, h10 = sR h7 2 j a → REST h10)) := by
  refine ⟨room_of (by omega) (by omega), ?_⟩
  rintro _ rfl _ rfl
  rw [hn]
  refine ⟨by rw [hS_nw, if_pos hn.symm], ?_⟩
  refine c_By_init (by omega) (by rw [hN_nw]; omega) (by rw [hS_nw, if_pos hn.symm]) hc ⟨by rw [hN_nw]; omega, by rw [hU_nw]; omega⟩ fun h' g1 g2 g3 g4 => ?_
  rw [hN_nw, hn] at g1 g3 g4
  rw [hU_nw] at g2
  have s2 := (Sm.nw (h := h) (c := 0) (l := 0) (n := 2) (by omega : ¬ 2 = hN h)).trans (g4 2 (by omega) (by omega))
  refine ⟨by rw [s2.2.2.2.2]; exact h7, ?_⟩
  rintro _ rfl
  refine k _ ⟨by rw [hN_sR]; omega, by rw [hU_sR]; omega, by rw [hS_sR, s2.2.2.2.2]; exact h7, by rw [hR_sR, if_pos ⟨rfl, rfl⟩], fun i hi => by rw [hR_sR, if_neg (fun e => hi e.2), s2.2.2.1], fun c c1 c2 => ?_⟩ (g3.mono (Sm.sR (by omega)) (Sm.sR (by omega)))
  exact ((Sm.nw (by omega)).trans (g4 c (by omega) (by omega))).trans (Sm.sR c1)
theorem sgL {REST : Hp → Prop} {cap j : Nat} (hn : hN h = n) (h3 : 3 ≤ n) (h7 : (hS h 2).1 = 7) (hc : cap < 2000) (r1 : n + 2 ≤ capN) (r2 : hU h + 2 + cap ≤ capU) (k : ∀ h', Stg h h' n 2 (2 + cap) j → Lng h' n (n + 1) 0 cap → REST h') :
    room h 2 = true ∧ ∀ a : Nat, a = hN h → ∀ h4 : Hp, h4 = hNew h 1 0 2 → (hS h4 a).1 = 1 ∧ Ca d m_Lo_init [.ref a, .int (iv cap)] h4 (QV (fun h7 => (hS h7 2).1 = 7 ∧ ∀ h10 : Hp, h10 = sR h7 2 j a → REST h10)) := by
  refine ⟨room_of (by omega) (by omega), ?_⟩
  rintro _ rfl _ rfl
  rw [hn]
  refine ⟨by rw [hS_nw, if_pos hn.symm], ?_⟩
  refine c_Lo_init (by omega) (by rw [hN_nw]; omega) (by rw [hS_nw, if_pos hn.symm]) hc ⟨by rw [hN_nw]; omega, by rw [hU_nw]; omega⟩ fun h' g1 g2 g3 g4 => ?_
  rw [hN_nw, hn] at g1 g3 g4
  rw [hU_nw] at g2
  have s2 := (Sm.nw (h := h) (c := 1) (l := 0) (n := 2) (by omega : ¬ 2 = hN h)).trans (g4 2 (by omega) (by omega))
  refine ⟨by rw [s2.2.2.2.2]; exact h7, ?_⟩
  rintro _ rfl
  refine k _ ⟨by rw [hN_sR]; omega, by rw [hU_sR]; omega, by rw [hS_sR, s2.2.2.2.2]; exact h7, by rw [hR_sR, if_pos ⟨rfl, rfl⟩], fun i hi => by rw [hR_sR, if_neg (fun e => hi e.2), s2.2.2.1], fun c c1 c2 => ?_⟩ (g3.mono (Sm.sR (by omega)) (Sm.sR (by omega)))
  exact ((Sm.nw (by omega)).trans (g4 c (by omega) (by omega))).trans (Sm.sR c1)
theorem sgF {REST : Hp → Prop} {j : Nat} (hn : hN h = n) (h3 : 3 ≤ n) (h7 : (hS h 2).1 = 7) (r1 : n + 92 ≤ capN) (r2 : hU h + 1532 ≤ capU) (k : ∀ h', Stg h h' n 92 1532 j → Fmt h' n → REST h') :
    room h 2 = true ∧ ∀ a : Nat, a = hN h → ∀ h4 : Hp, h4 = hNew h 3 0 2 → (hS h4 a).1 = 3 ∧ Ca (d + 1) m_Fo_init [.ref a] h4 (QV (fun h7 => (hS h7 2).1 = 7 ∧ ∀ h10 : Hp, h10 = sR h7 2 j a → REST h10)) := by
  refine ⟨room_of (by omega) (by omega), ?_⟩
  rintro _ rfl _ rfl
  rw [hn]
  refine ⟨by rw [hS_nw, if_pos hn.symm], ?_⟩
  refine c_Fo_init (by omega) (by rw [hN_nw, hn]) (by rw [hS_nw, if_pos hn.symm]) (by rw [hN_nw]; omega) (by rw [hU_nw]; omega) fun h' g1 g2 g3 _ g4 => ?_
  rw [hU_nw] at g2
  have s2 := (Sm.nw (h := h) (c := 3) (l := 0) (n := 2) (by omega : ¬ 2 = hN h)).trans (g4 2 (by omega))
  refine ⟨by rw [s2.2.2.2.2]; exact h7, ?_⟩
  rintro _ rfl
  refine k _ ⟨by rw [hN_sR]; omega, by rw [hU_sR]; omega, by rw [hS_sR, s2.2.2.2.2]; exact h7, by rw [hR_sR, if_pos ⟨rfl, rfl⟩], fun i hi => by rw [hR_sR, if_neg (fun e => hi e.2), s2.2.2.1], fun c c1 c2 => ?_⟩ (g3.mono fun a ha _ => Sm.sR (by omega))
  exact ((Sm.nw (by omega)).trans (g4 c (by omega))).trans (Sm.sR c1)
/-- the class's object and what it holds: draft at db, compiled at cb -/
def ShF (h : Hp) (db cb : Nat) : Prop := (hS h 2).1 = 7 ∧ (hR h 2 0 = 3 ∧ hR h 2 1 = 5 ∧ hR h 2 2 = 7 ∧ hR h 2 3 = 9 ∧ hR h 2 4 = 11 ∧ hR h 2 5 = db ∧ hR h 2 6 = cb) ∧ (Fmt h db ∧ Fmt h cb) ∧ (db = 13 ∧ cb = 105 ∨ db = 105 ∧ cb = 13)
theorem c_Ff_init {K : Hp → Prop} (hn : hN h = 3) (h7 : (hS h 2).1 = 7) (hu : hU h ≤ 100000) (k : ∀ h', hN h' = 197 → hU h' = hU h + 3724 → ShF h' 13 105 → Byt h' 3 4 0 90 → Byt h' 5 6 0 120 → Lng h' 7 8 0 160 → Byt h' 9 10 0 120 → Lng h' 11 12 0 160 → hI h' 2 7 = 0 ∧ hI h' 2 8 = -1 ∧ hI h' 2 9 = -1 → (∀ c, c < 2 → Sm h h' c) → K h') : Ca (d + 2) m_Ff_init [.ref 2] h (QV K) := by
  have cN : capN = 601000 := rfl
  have cU : capU = 7293000 := rfl
  refine w_Ff_init ⟨by decide, ?_⟩
  refine sgB (cap := 90) hn (by omega) h7 (by decide) (by omega) (by omega) fun h1 s1 t1 => ?_
  obtain ⟨p1, p2, p3, p4, p5, p6⟩ := s1
  refine sgB (cap := 120) p1 (by omega) p3 (by decide) (by omega) (by omega) fun h2 s2 t2 => ?_
  obtain ⟨q1, q2, q3, q4, q5, q6⟩ := s2
  refine sgL (cap := 160) q1 (by omega) q3 (by decide) (by omega) (by omega) fun h3 s3 t3 => ?_
  obtain ⟨u1, u2, u3, u4, u5, u6⟩ := s3
  refine sgB (cap := 120) u1 (by omega) u3 (by decide) (by omega) (by omega) fun h4 s4 t4 => ?_
  obtain ⟨v1, v2, v3, v4, v5, v6⟩ := s4
  refine sgL (cap := 160) v1 (by omega) v3 (by decide) (by omega) (by omega) fun h5 s5 t5 => ?_
  obtain ⟨w1, w2, w3, w4, w5, w6⟩ := s5
  refine sgF w1 (by omega) w3 (by omega) (by omega) fun h6 s6 t6 => ?_
  obtain ⟨x1, x2, x3, x4, x5, x6⟩ := s6
  refine sgF x1 (by omega) x3 (by omega) (by omega) fun h7' s7 t7 => ?_
  obtain ⟨y1, y2, y3, y4, y5, y6⟩ := s7
  rintro _ rfl _ rfl _ rfl
  have E : ∀ c, ¬ c = 2 → Sm h7' (sI (sI (sI h7' 2 7 0) 2 8 (-1)) 2 9 (-1)) c := fun c hc => ((Sm.sI hc).trans (Sm.sI hc)).trans (Sm.sI hc)
  have z6 : ∀ c, ¬ c = 2 → c < 105 → Sm h6 h7' c := y6
  have z5 : ∀ c, ¬ c = 2 → c < 13 → Sm h5 h7' c := fun c a b => (x6 c a (by omega)).trans (z6 c a (by omega))
  have z4 : ∀ c, ¬ c = 2 → c < 11 → Sm h4 h7' c := fun c a b => (w6 c a (by omega)).trans (z5 c a (by omega))
  have z3 : ∀ c, ¬ c = 2 → c < 9 → Sm h3 h7' c := fun c a b => (v6 c a (by omega)).trans (z4 c a (by omega))
  have z2 : ∀ c, ¬ c = 2 → c < 7 → Sm h2 h7' c := fun c a b => (u6 c a (by omega)).trans (z3 c a (by omega))
  have z1 : ∀ c, ¬ c = 2 → c < 5 → Sm h1 h7' c := fun c a b => (q6 c a (by omega)).trans (z2 c a (by omega))
  have z0 : ∀ c, ¬ c = 2 → c < 3 → Sm h h7' c := fun c a b => (p6 c a (by omega)).trans (z1 c a (by omega))
  have by_ : ∀ {hh : Hp} {a cap : Nat}, Byt hh a (a + 1) 0 cap → (∀ c, ¬ c = 2 → c < a + 2 → Sm hh h7' c) → 2 < a → Byt (sI (sI (sI h7' 2 7 0) 2 8 (-1)) 2 9 (-1)) a (a + 1) 0 cap := fun B z ha => B.mono ((z _ (by omega) (by omega)).trans (E _ (by omega))) ((z _ (by omega) (by omega)).trans (E _ (by omega)))
  have lo_ : ∀ {hh : Hp} {a cap : Nat}, Lng hh a (a + 1) 0 cap → (∀ c, ¬ c = 2 → c < a + 2 → Sm hh h7' c) → 2 < a → Lng (sI (sI (sI h7' 2 7 0) 2 8 (-1)) 2 9 (-1)) a (a + 1) 0 cap := fun B z ha => B.mono ((z _ (by omega) (by omega)).trans (E _ (by omega))) ((z _ (by omega) (by omega)).trans (E _ (by omega)))
  refine k _ y1 (by rw [hU_sI, hU_sI, hU_sI]; omega) ⟨y3, ⟨?_, ?_, ?_, ?_, ?_, ?_, ?_⟩, ⟨?_, ?_⟩, Or.inl ⟨rfl, rfl⟩⟩ (by_ t1 z1 (by omega)) (by_ t2 z2 (by omega)) (lo_ t3 z3 (by omega)) (by_ t4 z4 (by omega)) (lo_ t5 z5 (by omega)) ⟨?_, ?_, ?_⟩ fun c hc => (z0 c (by omega) (by omega)).trans (E c (by omega))
  · rw [hR_sI, hR_sI, hR_sI, y5 0 (by decide), x5 0 (by decide), w5 0 (by decide), v5 0 (by decide), u5 0 (by decide), q5 0 (by decide)]; exact p4
  · rw [hR_sI, hR_sI, hR_sI, y5 1 (by decide), x5 1 (by decide), w5 1 (by decide), v5 1 (by decide), u5 1 (by decide)]; exact q4
  · rw [hR_sI, hR_sI, hR_sI, y5 2 (by decide), x5 2 (by decide), w5 2 (by decide), v5 2 (by decide)]; exact u4
  · rw [hR_sI, hR_sI, hR_sI, y5 3 (by decide), x5 3 (by decide), w5 3 (by decide)]; exact v4
  · rw [hR_sI, hR_sI, hR_sI, y5 4 (by decide), x5 4 (by decide)]; exact w4
  · rw [hR_sI, hR_sI, hR_sI, y5 5 (by decide)]; exact x4
  · rw [hR_sI, hR_sI, hR_sI]; exact y4
  · exact t6.mono fun a a1 a2 => (z6 a (by omega) (by omega)).trans (E a (by omega))
  · exact t7.mono fun a a1 a2 => E a (by omega)
  · rw [hI_sI, if_neg (by decide), hI_sI, if_neg (by decide), hI_sI, if_pos ⟨rfl, rfl⟩]
  · rw [hI_sI, if_neg (by decide), hI_sI, if_pos ⟨rfl, rfl⟩]
  · rw [hI_sI, if_pos ⟨rfl, rfl⟩]
end FFI
