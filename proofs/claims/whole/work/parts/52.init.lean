/-! what stays the same -/
def Sm (h h' : Hp) (a : Nat) : Prop := hI h' a = hI h a ∧ hL h' a = hL h a ∧ hR h' a = hR h a ∧ hD h' a = hD h a ∧ hS h' a = hS h a
theorem Sm.refl (h : Hp) (a : Nat) : Sm h h a := ⟨rfl, rfl, rfl, rfl, rfl⟩
theorem Sm.trans {h h' h'' : Hp} {a : Nat} (p : Sm h h' a) (q : Sm h' h'' a) : Sm h h'' a := ⟨q.1.trans p.1, q.2.1.trans p.2.1, q.2.2.1.trans p.2.2.1, q.2.2.2.1.trans p.2.2.2.1, q.2.2.2.2.trans p.2.2.2.2⟩
theorem Sm.sI {h : Hp} {a b j : Nat} {v : Int32} (hb : ¬ b = a) : Sm h (sI h a j v) b := ⟨by funext k; rw [hI_sI, if_neg (fun e => hb e.1)], rfl, rfl, rfl, rfl⟩
theorem Sm.sL {h : Hp} {a b j : Nat} {v : Int64} (hb : ¬ b = a) : Sm h (sL h a j v) b := ⟨rfl, by funext k; rw [hL_sL, if_neg (fun e => hb e.1)], rfl, rfl, rfl⟩
theorem Sm.sR {h : Hp} {a b j : Nat} {v : Nat} (hb : ¬ b = a) : Sm h (sR h a j v) b := ⟨rfl, rfl, by funext k; rw [hR_sR, if_neg (fun e => hb e.1)], rfl, rfl⟩
theorem Sm.sD {h : Hp} {a b j : Nat} {v : UInt64} (hb : ¬ b = a) : Sm h (sD h a j v) b := ⟨rfl, rfl, rfl, by funext k; rw [hD_sD, if_neg (fun e => hb e.1)], rfl⟩
theorem Sm.cI {h : Hp} {a i b j n c : Nat} (hb : ¬ c = b) : Sm h (cI h a i b j n) c := ⟨by funext k; rw [hI_cI, if_neg (fun e => hb e.1)], rfl, rfl, rfl, rfl⟩
theorem Sm.cL {h : Hp} {a i b j n c : Nat} (hb : ¬ c = b) : Sm h (cL h a i b j n) c := ⟨rfl, by funext k; rw [hL_cL, if_neg (fun e => hb e.1)], rfl, rfl, rfl⟩
theorem Sm.nw {h : Hp} {c l n b : Nat} (hb : ¬ b = hN h) : Sm h (hNew h c l n) b := ⟨by funext k; rw [hI_nw, if_neg hb], by funext k; rw [hL_nw, if_neg hb], by funext k; rw [hR_nw, if_neg hb], by funext k; rw [hD_nw, if_neg hb], by rw [hS_nw, if_neg hb]⟩
theorem Byt.mono {h h' : Hp} {a r n cap : Nat} (B : Byt h a r n cap) (sa : Sm h h' a) (sr : Sm h h' r) : Byt h' a r n cap := by
  obtain ⟨b1, b2, b3, b4, b5, b6, b7, b8⟩ := B
  exact ⟨by rw [sa.2.2.2.2]; exact b1, by rw [sa.2.2.1]; exact b2, by rw [sr.2.2.2.2]; exact b3, b4, by rw [sa.1]; exact b5, b6, b7, b8⟩
theorem Lng.mono {h h' : Hp} {a r n cap : Nat} (B : Lng h a r n cap) (sa : Sm h h' a) (sr : Sm h h' r) : Lng h' a r n cap := by
  obtain ⟨b1, b2, b3, b4, b5, b6, b7, b8⟩ := B
  exact ⟨by rw [sa.2.2.2.2]; exact b1, by rw [sa.2.2.1]; exact b2, by rw [sr.2.2.2.2]; exact b3, b4, by rw [sa.1]; exact b5, b6, b7, b8⟩
theorem room_of {h : Hp} {n : Nat} (h1 : hN h < capN) (h2 : hU h + n ≤ capU) : room h n = true := by
  unfold room; rw [decide_eq_true h1, decide_eq_true h2]; rfl
/-- a format at b, its array at b + 1, its nodes from b + 2 -/
def Fmt (h : Hp) (b : Nat) : Prop := (hS h b).1 = 3 ∧ hR h b 0 = b + 1 ∧ hS h (b + 1) = (24, 90) ∧ (∀ k, k < 90 → hR h (b + 1) k = b + 2 + k ∧ (hS h (b + 2 + k)).1 = 2)
theorem Fmt.mono {h h' : Hp} {b : Nat} (F : Fmt h b) (s : ∀ a, b ≤ a → a < b + 92 → Sm h h' a) : Fmt h' b := by
  obtain ⟨f1, f2, f3, f4⟩ := F
  refine ⟨by rw [(s b (by omega) (by omega)).2.2.2.2]; exact f1, by rw [(s b (by omega) (by omega)).2.2.1]; exact f2, by rw [(s (b + 1) (by omega) (by omega)).2.2.2.2]; exact f3, fun k hk => ?_⟩
  rw [(s (b + 1) (by omega) (by omega)).2.2.1, (s (b + 2 + k) (by omega) (by omega)).2.2.2.2]
  exact f4 k hk
section INIT
variable {d : Nat} {h : Hp} {a b n : Nat} {K : Hp → Prop}
theorem c_By_init (ha : 2 ≤ a) (hlt : a < hN h) (hc : (hS h a).1 = 0) (hn : n < 2000) (hr : hN h < capN ∧ hU h + n ≤ capU) (k : ∀ h', hN h' = hN h + 1 → hU h' = hU h + n → Byt h' a (hN h) 0 n → (∀ c, ¬ c = a → ¬ c = hN h → Sm h h' c) → K h') : Ca d m_By_init [.ref a, .int (iv n)] h (QV K) := by
  refine w_By_init ⟨ha, ?_⟩
  rw [iv_clamp (by omega)]
  refine ⟨⟨iv_neg (by omega), by omega, room_of hr.1 hr.2⟩, ?_⟩
  rintro _ rfl _ rfl
  refine ⟨by rw [hS_nw, if_neg (by omega)]; exact hc, ?_⟩
  rintro _ rfl _ rfl
  refine k _ rfl rfl ⟨?_, ?_, ?_, by omega, ?_, by omega, hn, by omega⟩ fun c c1 c2 => ?_
  · rw [hS_sI, hS_sR, hS_nw, if_neg (by omega)]; exact hc
  · rw [hR_sI, hR_sR, if_pos ⟨rfl, rfl⟩]
  · rw [hS_sI, hS_sR, hS_nw, if_pos rfl]
  · rw [hI_sI, if_pos ⟨rfl, rfl⟩]; rfl
  · exact (Sm.nw c2).trans ((Sm.sR c1).trans (Sm.sI c1))
theorem c_Lo_init (ha : 2 ≤ a) (hlt : a < hN h) (hc : (hS h a).1 = 1) (hn : n < 2000) (hr : hN h < capN ∧ hU h + n ≤ capU) (k : ∀ h', hN h' = hN h + 1 → hU h' = hU h + n → Lng h' a (hN h) 0 n → (∀ c, ¬ c = a → ¬ c = hN h → Sm h h' c) → K h') : Ca d m_Lo_init [.ref a, .int (iv n)] h (QV K) := by
  refine w_Lo_init ⟨ha, ?_⟩
  rw [iv_clamp (by omega)]
  refine ⟨⟨iv_neg (by omega), by omega, room_of hr.1 hr.2⟩, ?_⟩
  rintro _ rfl _ rfl
  refine ⟨by rw [hS_nw, if_neg (by omega)]; exact hc, ?_⟩
  rintro _ rfl _ rfl
  refine k _ rfl rfl ⟨?_, ?_, ?_, by omega, ?_, by omega, hn, by omega⟩ fun c c1 c2 => ?_
  · rw [hS_sI, hS_sR, hS_nw, if_neg (by omega)]; exact hc
  · rw [hR_sI, hR_sR, if_pos ⟨rfl, rfl⟩]
  · rw [hS_sI, hS_sR, hS_nw, if_pos rfl]
  · rw [hI_sI, if_pos ⟨rfl, rfl⟩]; rfl
  · exact (Sm.nw c2).trans ((Sm.sR c1).trans (Sm.sI c1))
/-- the loop that fills a format's array -/
theorem c_Fo_loop (hb : 2 ≤ b) : ∀ (n i : Nat) (h : Hp), n + i = 90 → hN h = b + 2 + i → (hS h b).1 = 3 ∧ hR h b 0 = b + 1 ∧ hS h (b + 1) = (24, 90) ∧ (∀ k, k < i → hR h (b + 1) k = b + 2 + k ∧ (hS h (b + 2 + k)).1 = 2) → hN h + n ≤ capN → hU h + n * 16 ≤ capU →
    (∀ h', hN h' = b + 92 → hU h' = hU h + n * 16 → Fmt h' b → hI h' b 1 = 0 → (∀ c, c < b → Sm h h' c) → K h') → Wp (d + 1) m_Fo_init 15 [some (.ref b), some (.int (iv i))] [] h (QV K)
  | 0, i, h, hi, hN0, hF, h1, h2, k => by
    have : i = 90 := by omega
    subst this
    refine w_Fo_init_15 ?_
    rw [show (90 : Int32) = iv 90 from rfl, if_neg (fun e => by have := (iv_lt (by omega) (by omega)).mp e; omega)]
    refine ⟨hF.1, ?_⟩
    rintro _ rfl
    refine k _ hN0 (by rw [hU_sI]; omega) ⟨hF.1, hF.2.1, hF.2.2.1, hF.2.2.2⟩ (by rw [hI_sI, if_pos ⟨rfl, rfl⟩]) fun c hc => Sm.sI (by omega)
  | n + 1, i, h, hi, hN0, hF, h1, h2, k => by
    obtain ⟨f1, f2, f3, f4⟩ := hF
    refine w_Fo_init_15 ?_
    rw [show (90 : Int32) = iv 90 from rfl, if_pos ((iv_lt (by omega) (by omega)).mpr (by omega))]
    refine ⟨f1, room_of (by omega) (by omega), ?_⟩
    rintro _ rfl _ rfl
    refine ⟨by rw [hS_nw, if_pos rfl], w_No_init ⟨by omega, ?_⟩⟩
    rw [f2]
    have e1 : hS (hNew h 2 0 16) (b + 1) = (24, 90) := by rw [hS_nw, if_neg (by omega)]; exact f3
    rw [e1]
    refine ⟨rfl, by omega, ainr_iv (by omega) (by omega), by rw [hS_nw, if_pos rfl], ?_⟩
    rintro _ rfl _ rfl
    rw [iv1, iv_add, iv_clamp (by omega)]
    refine c_Fo_loop hb n (i + 1) _ (by omega) (by rw [hN_sR, hN_nw]; omega) ⟨?_, ?_, ?_, fun q hq => ?_⟩ (by rw [hN_sR, hN_nw]; omega) (by rw [hU_sR, hU_nw]; omega) fun h' g1 g2 g3 g4 g5 => k h' g1 (by rw [g2, hU_sR, hU_nw]; omega) g3 g4 fun c hc => ?_
    · rw [hS_sR, hS_nw, if_neg (by omega)]; exact f1
    · rw [hR_sR, if_neg (by omega), hR_nw, if_neg (by omega)]; exact f2
    · rw [hS_sR]; exact e1
    · by_cases e : q = i
      · subst e
        rw [hR_sR, if_pos ⟨rfl, rfl⟩, hS_sR, hS_nw, if_pos (by omega)]
        exact ⟨by omega, rfl⟩
      · rw [hR_sR, if_neg (by omega), hR_nw, if_neg (by omega), hS_sR, hS_nw, if_neg (by omega)]
        exact f4 q (by omega)
    · exact ((Sm.nw (by omega)).trans (Sm.sR (by omega))).trans (g5 c hc)
theorem c_Fo_init (hb : 2 ≤ b) (hN0 : hN h = b + 1) (hc : (hS h b).1 = 3) (h1 : hN h + 91 ≤ capN) (h2 : hU h + 1530 ≤ capU) (k : ∀ h', hN h' = b + 92 → hU h' = hU h + 1530 → Fmt h' b → hI h' b 1 = 0 → (∀ c, c < b → Sm h h' c) → K h') : Ca (d + 1) m_Fo_init [.ref b] h (QV K) := by
  refine w_Fo_init ⟨hb, ?_⟩
  rw [show (90 : Int32) = iv 90 from rfl, iv_clamp (by omega)]
  refine ⟨⟨iv_neg (by omega), by omega, room_of (by omega) (by omega)⟩, ?_⟩
  rintro _ rfl _ rfl
  refine ⟨by rw [hS_nw, if_neg (by omega)]; exact hc, ?_⟩
  rintro _ rfl
  rw [iv0]
  refine c_Fo_loop hb 90 0 _ rfl (by rw [hN_sR, hN_nw]; omega) ⟨?_, ?_, ?_, fun q hq => absurd hq (by omega)⟩ (by rw [hN_sR, hN_nw]; omega) (by rw [hU_sR, hU_nw]; omega) fun h' g1 g2 g3 g4 g5 => k h' g1 (by rw [g2, hU_sR, hU_nw]) g3 g4 fun c hc => ?_
  · rw [hS_sR, hS_nw, if_neg (by omega)]; exact hc
  · rw [hR_sR, if_pos ⟨rfl, rfl⟩]; exact hN0
  · rw [hS_sR, hS_nw, if_pos (by omega)]
  · exact ((Sm.nw (by omega)).trans (Sm.sR (by omega))).trans (g5 c hc)
end INIT
