/-! the Model's intervals and meanings -/
def mLo (c w : Int32) : Int64 := if c = 115 then (-((1 : Int64) <<< ((bitsOf c w).toInt64 &&& 63))) / 2 else 0
def mHi (c w : Int32) : Int64 := if c = 115 then ((1 : Int64) <<< ((bitsOf c w).toInt64 &&& 63)) / 2 - 1 else ((1 : Int64) <<< ((bitsOf c w).toInt64 &&& 63)) - 1
theorem ml_u : ∀ e, e < 5 → mLo 117 (iv (e + 0)) = wLo 117 (iv (e + 0)) ∧ mHi 117 (iv (e + 0)) = wHi 117 (iv (e + 0)) ∨ e = 0 := by decide +kernel
theorem ml_v : ∀ e, e < 5 → mLo 118 (iv (e + 0)) = wLo 118 (iv (e + 0)) ∧ mHi 118 (iv (e + 0)) = wHi 118 (iv (e + 0)) ∨ e = 0 := by decide +kernel
theorem ml_s : ∀ e, e < 5 → mLo 115 (iv (e + 0)) = wLo 115 (iv (e + 0)) ∧ mHi 115 (iv (e + 0)) = wHi 115 (iv (e + 0)) ∨ e = 0 := by decide +kernel
theorem ml_p : ∀ e, e < 8 → mLo 112 (iv (e + 0)) = wLo 112 (iv (e + 0)) ∧ mHi 112 (iv (e + 0)) = wHi 112 (iv (e + 0)) ∨ e = 0 := by decide +kernel
theorem ml_eq {S : Tb} {k : Nat} (G : GdK S k) (hz : sz (tG S k 0) = true) : mLo (tG S k 0) (tG S k 1) = wLo (tG S k 0) (tG S k 1) ∧ mHi (tG S k 0) (tG S k 1) = wHi (tG S k 0) (tG S k 1) := by
  obtain ⟨⟨e, e1, e2, e3⟩, -⟩ := G.2.1 hz
  rw [e3]
  unfold sz at hz
  simp only [Bool.or_eq_true, decide_eq_true_iff] at hz
  rcases hz with ((hz | hz) | hz) | hz <;> rw [hz] at e2 ⊢
  · rw [if_neg (by decide)] at e2; exact (ml_u e (by omega)).resolve_right (by omega)
  · rw [if_neg (by decide)] at e2; exact (ml_v e (by omega)).resolve_right (by omega)
  · rw [if_neg (by decide)] at e2; exact (ml_s e (by omega)).resolve_right (by omega)
  · rw [if_pos rfl] at e2; exact (ml_p e (by omega)).resolve_right (by omega)
theorem sw64 (x y : Int64) : (if x < y then y else x) = (if y < x then x else y) := by
  by_cases a : x < y
  · rw [if_pos a, if_neg (fun b => by rw [Int64.lt_iff_toInt_lt] at a b; omega)]
  · rw [if_neg a]
    by_cases b : y < x
    · rw [if_pos b]
    · rw [if_neg b, ← Int64.toInt_inj]
      rw [Int64.lt_iff_toInt_lt] at a b; omega
theorem sL_two (h : Hp) (n : Nat) {a a' : Nat} (ha : ¬ a = a') {u v w x : Int64} : sL (sL (sL (sL h a n u) a' n v) a n w) a' n x = sL (sL h a n w) a' n x := by
  unfold sL up2
  congr 2
  funext b q
  dsimp only
  by_cases z1 : b = a' ∧ q = n
  · simp only [if_pos z1]
  · by_cases z2 : b = a ∧ q = n
    · simp only [if_neg z1, if_pos z2]
    · simp only [if_neg z1, if_neg z2]
section INT
variable {d n : Nat} {S : Tb}
/-- what the Model's soundness changes -/
def MSf (h h' : Hp) : Prop := (hR h' = hR h ∧ hD h' = hD h ∧ hS h' = hS h ∧ hN h' = hN h ∧ hU h' = hU h) ∧ (∀ c, ¬ c = 221 → hI h' c = hI h c) ∧ (∀ c, ¬ (217 ≤ c ∧ c ≤ 220) → hL h' c = hL h c)
theorem MSf.refl (h : Hp) : MSf h h := ⟨⟨rfl, rfl, rfl, rfl, rfl⟩, fun _ _ => rfl, fun _ _ => rfl⟩
theorem MSf.trans {h h' h'' : Hp} (x : MSf h h') (y : MSf h' h'') : MSf h h'' := by
  obtain ⟨⟨x1, x2, x3, x4, x5⟩, x6, x7⟩ := x
  obtain ⟨⟨y1, y2, y3, y4, y5⟩, y6, y7⟩ := y
  exact ⟨⟨y1.trans x1, y2.trans x2, y3.trans x3, y4.trans x4, y5.trans x5⟩, fun c q => (y6 c q).trans (x6 c q), fun c q => (y7 c q).trans (x7 c q)⟩
theorem MSf.sL {h : Hp} {c j : Nat} {v : Int64} (hc : 217 ≤ c ∧ c ≤ 220) : MSf h (sL h c j v) := ⟨⟨rfl, rfl, rfl, rfl, rfl⟩, fun _ _ => rfl, fun x q => hL_ne (by omega)⟩
theorem MSf.si {h : Hp} {j : Nat} {v : Int32} : MSf h (sI h 221 j v) := ⟨⟨rfl, rfl, rfl, rfl, rfl⟩, fun x q => hI_ne q, fun _ _ => rfl⟩
theorem TabM.ms {h h' : Hp} (T : TabM h S) (f : MSf h h') : TabM h' S := T.mono f.1.1 f.1.2.2.1 (by rw [f.2.1 197 (by decide)]) fun a h1 h2 => f.2.1 a (by omega)
theorem TabM.f {h : Hp} (T : TabM h S) {j : Nat} (hj : j < 7) {k : Nat} (hk : k < S.1) : hI h (202 + j) k = tG S k j := T.2.2.2.1 j hj k (by have := T.2.2.1; omega)
theorem c_int_226 {K : Hp → Prop} {h : Hp} (T : TabM h S) (hn : n < S.1) {u : Int64} {y1 y2 y3 : Option Value} (hu : hL h 218 n = u) (k : K (sL h 218 n (if (tG S n 3).toInt64 < u then (tG S n 3).toInt64 else u))) : Wp d m_Mo_interval 226 [some (.ref 197), some (.int (iv n)), y1, y2, y3] [] h (QV K) := by
  have M := T.1
  have n90 : n < 90 := by have := T.2.2.1; omega
  have an : ainr (iv n) 90 = true := ainr_iv (by omega) n90
  have cn : (iv n).toNatClampNeg = n := iv_clamp (by omega)
  have f3 : hI h 205 n = tG S n 3 := T.f (j := 3) (by decide) hn
  refine w_Mo_interval_226 ?_
  simp only [hR_sI, hS_sI, M.o, M.r15, M.s205, M.r30, M.s218, true_and, an, cn, f3, hu]
  by_cases c : (tG S n 3).toInt64 < u
  · rw [if_pos c] at k ⊢
    refine ⟨by decide, ?_⟩
    rintro _ rfl; exact k
  · rw [if_neg c, sL_id hu] at k
    rw [if_neg c]; exact k
theorem c_int_185 {K : Hp → Prop} {h : Hp} (T : TabM h S) (hn : n < S.1) {l u : Int64} {y1 y2 y3 : Option Value} (hl : hL h 217 n = l) (hu : hL h 218 n = u)
    (k : K (sL (sL h 217 n (if tG S n 2 = 61 then (if l < (tG S n 3).toInt64 then (tG S n 3).toInt64 else l) else l)) 218 n (if tG S n 2 = 61 then (if (tG S n 3).toInt64 < u then (tG S n 3).toInt64 else u) else u))) : Wp d m_Mo_interval 185 [some (.ref 197), some (.int (iv n)), y1, y2, y3] [] h (QV K) := by
  have M := T.1
  have n90 : n < 90 := by have := T.2.2.1; omega
  have an : ainr (iv n) 90 = true := ainr_iv (by omega) n90
  have cn : (iv n).toNatClampNeg = n := iv_clamp (by omega)
  have f3 : hI h 205 n = tG S n 3 := T.f (j := 3) (by decide) hn
  have f2 : hI h 204 n = tG S n 2 := T.f (j := 2) (by decide) hn
  refine w_Mo_interval_185 ?_
  simp only [hR_sI, hS_sI, M.o, M.r14, M.s204, M.r15, M.s205, M.r29, M.s217, true_and, an, cn, f3, f2, hl]
  by_cases c : tG S n 2 = 61
  · rw [if_pos c, if_pos c] at k
    rw [if_pos c]
    by_cases e : l < (tG S n 3).toInt64
    · rw [if_pos e] at k
      rw [if_pos e]
      refine ⟨by decide, ?_⟩
      rintro _ rfl
      exact c_int_226 (T.ms (MSf.sL (by decide))) hn (by rw [hL_o (by omega)]; exact hu) k
    · rw [if_neg e, sL_id hl] at k
      rw [if_neg e]
      exact c_int_226 T hn hu k
  · rw [if_neg c, if_neg c, sL_id hl, sL_id hu] at k
    rw [if_neg c]; exact k
theorem c_int_140 {K : Hp → Prop} {h : Hp} (T : TabM h S) (hn : n < S.1) {l u : Int64} {y1 y2 y3 : Option Value} (hl : hL h 217 n = l) (hu : hL h 218 n = u)
    (k : K (sL (sL h 217 n (if tG S n 2 = 62 then (if l < (tG S n 3 + 1).toInt64 then (tG S n 3 + 1).toInt64 else l) else if tG S n 2 = 61 then (if l < (tG S n 3).toInt64 then (tG S n 3).toInt64 else l) else l)) 218 n (if tG S n 2 = 61 then (if (tG S n 3).toInt64 < u then (tG S n 3).toInt64 else u) else u))) : Wp d m_Mo_interval 140 [some (.ref 197), some (.int (iv n)), y1, y2, y3] [] h (QV K) := by
  have M := T.1
  have n90 : n < 90 := by have := T.2.2.1; omega
  have an : ainr (iv n) 90 = true := ainr_iv (by omega) n90
  have cn : (iv n).toNatClampNeg = n := iv_clamp (by omega)
  have f3 : hI h 205 n = tG S n 3 := T.f (j := 3) (by decide) hn
  have f2 : hI h 204 n = tG S n 2 := T.f (j := 2) (by decide) hn
  refine w_Mo_interval_140 ?_
  simp only [hR_sI, hS_sI, M.o, M.r14, M.s204, M.r15, M.s205, M.r29, M.s217, true_and, an, cn, f3, f2, hl]
  by_cases c : tG S n 2 = 62
  · rw [if_pos c] at k
    rw [if_pos c]
    have n61 : ¬ tG S n 2 = 61 := by rw [c]; decide
    rw [if_neg n61] at k
    by_cases e : l < (tG S n 3 + 1).toInt64
    · rw [if_pos e] at k
      rw [if_pos e]
      refine ⟨by decide, ?_⟩
      rintro _ rfl
      refine c_int_185 (u := u) (T.ms (MSf.sL (by decide))) hn hL_s (by rw [hL_o (by omega)]; exact hu) ?_
      rw [if_neg n61, if_neg n61, sL_sL]; exact k
    · rw [if_neg e] at k
      rw [if_neg e]
      refine c_int_185 T hn hl hu ?_
      rw [if_neg n61, if_neg n61]; exact k
  · rw [if_neg c] at k
    rw [if_neg c]
    exact c_int_185 T hn hl hu k
theorem c_interval {K : Hp → Prop} {h : Hp} (T : TabM h S) (hn : n < S.1) (G : GdK S n) (hz : sz (tG S n 0) = true) (k : K (sL (sL h 217 n (loT S n)) 218 n (hiT S n))) : Ca d m_Mo_interval [.ref 197, .int (iv n)] h (QV K) := by
  have M := T.1
  have n90 : n < 90 := by have := T.2.2.1; omega
  have an : ainr (iv n) 90 = true := ainr_iv (by omega) n90
  have cn : (iv n).toNatClampNeg = n := iv_clamp (by omega)
  have f0 : hI h 202 n = tG S n 0 := T.f (j := 0) (by decide) hn
  have f1 : hI h 203 n = tG S n 1 := T.f (j := 1) (by decide) hn
  have f3 : hI h 205 n = tG S n 3 := T.f (j := 3) (by decide) hn
  have f2 : hI h 204 n = tG S n 2 := T.f (j := 2) (by decide) hn
  obtain ⟨e1, e2⟩ := ml_eq G hz
  have m1 : ¬ tG S n 0 = 102 := fun q => by rw [q] at hz; cases hz
  have m2 : ¬ tG S n 0 = 100 := fun q => by rw [q] at hz; cases hz
  have hlim := (G.2.1 hz).2
  -- behind the two stores
  have fin : ∀ (y1 y2 y3 : Option Value), Wp d m_Mo_interval 140 [some (.ref 197), some (.int (iv n)), y1, y2, y3] [] (sL (sL h 217 n (mLo (tG S n 0) (tG S n 1))) 218 n (if tG S n 2 = 60 then (if (tG S n 3 - 1).toInt64 < mHi (tG S n 0) (tG S n 1) then (tG S n 3 - 1).toInt64 else mHi (tG S n 0) (tG S n 1)) else mHi (tG S n 0) (tG S n 1))) (QV K) := by
    intro y1 y2 y3
    refine c_int_140 ((T.ms (MSf.sL (by decide))).ms (MSf.sL (by decide))) hn (l := mLo (tG S n 0) (tG S n 1)) (by rw [hL_o (by omega)]; exact hL_s) hL_s ?_
    rw [sL_two h n (by decide), e1, e2]
    unfold loT hiT at k
    rw [if_neg m1, if_neg m2, if_pos hz, if_neg m1, if_neg m2, if_pos hz] at k
    unfold liLo liHi at k
    rcases hlim with q | ⟨q | q | q, -⟩
    · rw [q] at k ⊢; exact k
    · rw [q] at k ⊢; exact k
    · rw [q] at k ⊢
      simp only [show ¬ (62 : Int32) = 60 by decide, show ¬ (62 : Int32) = 61 by decide, show ¬ (62 : Int32) = 0 by decide, if_true, if_false] at k ⊢
      rw [sw64]; exact k
    · rw [q] at k ⊢
      simp only [show ¬ (61 : Int32) = 60 by decide, show ¬ (61 : Int32) = 62 by decide, show ¬ (61 : Int32) = 0 by decide, if_true, if_false] at k ⊢
      rw [sw64]; exact k
  have two : ∀ (u v : Int64), sL (sL (sL h 217 n u) 218 n v) 218 n = sL (sL h 217 n u) 218 n := fun u v => by funext w; exact sL_sL _ _ _ _ _
  unfold mLo mHi at fin
  refine w_Mo_interval ?_
  simp only [hR_sI, hS_sI, M.o, M.r12, M.s202, M.r13, M.s203, M.r14, M.s204, M.r15, M.s205, M.r29, M.s217, M.r30, M.s218, true_and, an, cn, f0, f1, f2, f3, hR_sL, hI_sL, hL_s, forall_eq, sL_sL]
  by_cases c1 : tG S n 0 = 112
  · have c2 : ¬ tG S n 0 = 115 := by rw [c1]; decide
    have bt : bitsOf (tG S n 0) (tG S n 1) = tG S n 1 := by unfold bitsOf; rw [if_pos c1]
    simp only [if_neg c2, bt] at fin
    simp only [if_pos c1, if_neg c2]
    refine ⟨by decide, by decide, ?_⟩
    by_cases c3 : tG S n 2 = 60
    · simp only [if_pos c3] at fin ⊢
      by_cases q : (tG S n 3 - 1).toInt64 < ((1 : Int64) <<< ((tG S n 1).toInt64 &&& 63)) - 1
      · simp only [if_pos q] at fin ⊢
        exact ⟨by decide, fin _ _ _⟩
      · simp only [if_neg q] at fin ⊢
        exact fin _ _ _
    · simp only [if_neg c3] at fin ⊢
      exact fin _ _ _
  · have bt : bitsOf (tG S n 0) (tG S n 1) = 8 * tG S n 1 := by unfold bitsOf; rw [if_neg c1]
    simp only [bt] at fin
    simp only [if_neg c1]
    by_cases c2 : tG S n 0 = 115
    · simp only [if_pos c2] at fin ⊢
      refine ⟨by decide, by decide, ?_⟩
      by_cases c3 : tG S n 2 = 60
      · simp only [if_pos c3] at fin ⊢
        by_cases q : (tG S n 3 - 1).toInt64 < ((1 : Int64) <<< ((8 * tG S n 1).toInt64 &&& 63)) / 2 - 1
        · simp only [if_pos q] at fin ⊢
          exact ⟨by decide, fin _ _ _⟩
        · simp only [if_neg q] at fin ⊢
          exact fin _ _ _
      · simp only [if_neg c3] at fin ⊢
        exact fin _ _ _
    · simp only [if_neg c2] at fin ⊢
      refine ⟨by decide, by decide, ?_⟩
      by_cases c3 : tG S n 2 = 60
      · simp only [if_pos c3] at fin ⊢
        by_cases q : (tG S n 3 - 1).toInt64 < ((1 : Int64) <<< ((8 * tG S n 1).toInt64 &&& 63)) - 1
        · simp only [if_pos q] at fin ⊢
          exact ⟨by decide, fin _ _ _⟩
        · simp only [if_neg q] at fin ⊢
          exact fin _ _ _
      · simp only [if_neg c3] at fin ⊢
        exact fin _ _ _
end INT
