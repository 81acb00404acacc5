/-! the class reads so -/
theorem iv_div8 {n : Nat} (h : n < 2 ^ 31) : iv n / 8 = iv (n / 8) := by
  rw [← Int32.toInt_inj, Int32.toInt_div_of_ne_right _ _ (by decide), iv_toInt h, iv_toInt (by omega), show (8 : Int32).toInt = ((8 : Nat) : Int) from rfl, ← Int.ofNat_tdiv]
theorem iv_mod8 {n : Nat} (h : n < 2 ^ 31) : iv n - iv n / 8 * 8 = iv (n % 8) := by
  rw [iv_div8 h, show (8 : Int32) = iv 8 from rfl, iv_mul, iv_sub (by omega)]
  congr 1; omega
section RDC
variable {d x0 b L : Nat} {M : Nat → Int32} {S : Tb} {h0 h : Hp}
/-- what a reading may change -/
def RdF (x0 b : Nat) (h0 h : Hp) : Prop := (hR h = hR h0 ∧ hS h = hS h0 ∧ hN h = hN h0 ∧ hU h = hU h0 ∧ hD h = hD h0) ∧ (∀ a, ¬ a = x0 → ¬ a = 11 → hI h a = hI h0 a) ∧ (∀ j, ¬ j = 1 → hI h 11 j = hI h0 11 j) ∧ (∀ a, ¬ a = 12 → ¬ (b + 2 ≤ a ∧ a < b + 92) → hL h a = hL h0 a) ∧ (∀ a j, ¬ a = 12 → ¬ j = 15 → hL h a j = hL h0 a j)
theorem RdF.refl (x0 b : Nat) (h : Hp) : RdF x0 b h h := ⟨⟨rfl, rfl, rfl, rfl, rfl⟩, fun _ _ _ => rfl, fun _ _ => rfl, fun _ _ _ => rfl, fun _ _ _ _ => rfl⟩
theorem RdF.trans {h h' h'' : Hp} (a : RdF x0 b h h') (c : RdF x0 b h' h'') : RdF x0 b h h'' := by
  obtain ⟨⟨a1, a2, a3, a4, a5⟩, a6, a7, a8, a9⟩ := a
  obtain ⟨⟨c1, c2, c3, c4, c5⟩, c6, c7, c8, c9⟩ := c
  exact ⟨⟨c1.trans a1, c2.trans a2, c3.trans a3, c4.trans a4, c5.trans a5⟩, fun x h1 h2 => (c6 x h1 h2).trans (a6 x h1 h2), fun j hj => (c7 j hj).trans (a7 j hj), fun x h1 h2 => (c8 x h1 h2).trans (a8 x h1 h2), fun x j h1 h2 => (c9 x j h1 h2).trans (a9 x j h1 h2)⟩
theorem RdF.x {j : Nat} {v : Int32} (hx : 231 ≤ x0) : RdF x0 b h (sI h x0 j v) := ⟨⟨rfl, rfl, rfl, rfl, rfl⟩, fun a h1 _ => hI_ne h1, fun _ _ => hI_o (by omega), fun _ _ _ => rfl, fun _ _ _ _ => rfl⟩
theorem RdF.f {v : Int32} : RdF x0 b h (sI h 11 1 v) := ⟨⟨rfl, rfl, rfl, rfl, rfl⟩, fun a _ h2 => hI_ne h2, fun j hj => hI_o (by omega), fun _ _ _ => rfl, fun _ _ _ _ => rfl⟩
theorem RdF.l {j : Nat} {v : Int64} : RdF x0 b h (sL h 12 j v) := ⟨⟨rfl, rfl, rfl, rfl, rfl⟩, fun _ _ _ => rfl, fun _ _ => rfl, fun a h1 _ => hL_ne h1, fun a j h1 _ => hL_o (by omega)⟩
theorem RdF.n {k : Nat} {v : Int64} (hk : k < 90) : RdF x0 b h (sL h (b + 2 + k) 15 v) := ⟨⟨rfl, rfl, rfl, rfl, rfl⟩, fun _ _ _ => rfl, fun _ _ => rfl, fun a _ h2 => hL_ne (by omega), fun a j _ h2 => hL_o (by omega)⟩
/-- where a reading begins -/
def Rd0 (x0 b L : Nat) (M : Nat → Int32) (S : Tb) (h : Hp) : Prop := ((hS h x0).1 = 5 ∧ hR h x0 3 = 5 ∧ hR h x0 4 = 11 ∧ 231 ≤ x0) ∧ (CpT h b S ∧ Fmt h b ∧ 13 ≤ b ∧ b + 92 ≤ 197) ∧ (Byt h 5 6 L 120 ∧ (∀ i, i < L → hI h 6 i &&& 255 = M i) ∧ (∀ i, L ≤ i → M i = 0)) ∧ (∃ n, Lng h 11 12 n 160)
def FndC (h : Hp) (w : List Int64) : Prop := hI h 11 1 = iv w.length ∧ w.length ≤ 160 ∧ ∀ i, i < w.length → hL h 12 i = w.getD i 0
def RcR (x0 b L : Nat) (S : Tb) (h0 : Hp) (s : Ps (List Int64)) (h : Hp) : Prop := RdF x0 b h0 h ∧ (hI h x0 0 = iv s.1 ∧ s.1 ≤ 8 * L) ∧ (hI h x0 1 = s.2.2.2.1 ∧ hI h x0 2 = s.2.2.2.2) ∧ FndC h s.2.1 ∧ (∀ q v, s.2.2.1 q = some v → (q < S.1 ∧ sz (tG S q 0) = true) ∧ hL h (b + 2 + q) 15 = v)
def ReR (x0 b : Nat) (h0 : Hp) (p m : Int32) (h : Hp) : Prop := RdF x0 b h0 h ∧ (hI h x0 1 = p ∧ hI h x0 2 = m) ∧ ∃ n, Lng h 11 12 n 160
theorem Rd0.fr {h' : Hp} (R : Rd0 x0 b L M S h) (f : RdF x0 b h h') (hw : ∃ n, Lng h' 11 12 n 160) : Rd0 x0 b L M S h' := by
  obtain ⟨⟨a1, a2, a3, a4⟩, ⟨c1, c2, c3, c4⟩, ⟨m1, m2, m3⟩, -⟩ := R
  obtain ⟨⟨f1, f2, f3, f4, f5⟩, f6, f7, f8, f9⟩ := f
  refine ⟨⟨by rw [f2]; exact a1, by rw [f1]; exact a2, by rw [f1]; exact a3, a4⟩, ⟨c1.mono (by rw [f6 b (by omega) (by omega)]) fun k hk => ⟨f6 _ (by omega) (by omega), by rw [f1], fun j hj => f9 _ j (by omega) hj⟩, ?_, c3, c4⟩, ⟨?_, fun i hi => by rw [f6 6 (by omega) (by decide)]; exact m2 i hi, m3⟩, hw⟩
  · unfold Fmt at c2 ⊢; rw [f1, f2]; exact c2
  · obtain ⟨q1, q2, q3, q4, q5, q6⟩ := m1
    exact ⟨by rw [f2]; exact q1, by rw [f1]; exact q2, by rw [f2]; exact q3, q4, by rw [f6 5 (by omega) (by decide)]; exact q5, q6⟩
theorem Lng.fr {h' : Hp} {n m : Nat} (B : Lng h 11 12 n 160) (f : RdF x0 b h h') (e : hI h' 11 1 = iv m) (hm : m ≤ 160) : Lng h' 11 12 m 160 := by
  obtain ⟨q1, q2, q3, q4, q5, q6, q7⟩ := B
  exact ⟨by rw [f.1.2.1]; exact q1, by rw [f.1.1]; exact q2, by rw [f.1.2.1]; exact q3, q4, e, hm, q7⟩
theorem Rd0.now {h' : Hp} {w : List Int64} (R : Rd0 x0 b L M S h) (f : RdF x0 b h h') (F : FndC h' w) : Rd0 x0 b L M S h' ∧ Lng h' 11 12 w.length 160 := by
  obtain ⟨n, B⟩ := R.2.2.2
  have l := B.fr f F.1 F.2.1
  exact ⟨R.fr f ⟨_, l⟩, l⟩
/-- within a unit -/
def InU (x0 b : Nat) (S : Tb) (h0 : Hp) (k : Nat) (s : Ps (List Int64)) (h : Hp) : Prop := RdF x0 b h0 h ∧ (hI h x0 1 = iv (s.1 / 8) ∧ hI h x0 2 = tG S k 7) ∧ FndC h s.2.1 ∧ (∀ q v, s.2.2.1 q = some v → (q < S.1 ∧ sz (tG S q 0) = true) ∧ hL h (b + 2 + q) 15 = v)
def mkU {ω : Type} (S : Tb) (k : Nat) (s : Ps ω) (o : Int32 × Nat × ω × Int64) : Int32 × Ps ω := (o.1, o.2.1, o.2.2.1, (fun q => if q = k ∧ sz (tG S k 0) = true then some o.2.2.2 else s.2.2.1 q), iv (s.1 / 8), tG S k 7)
theorem InU.bit {k : Nat} {s : Ps (List Int64)} (I : InU x0 b S h0 k s h) (hx : 231 ≤ x0) {v : Int32} (hb : b + 92 ≤ 197) : InU x0 b S h0 k s (sI h x0 0 v) := ⟨I.1.trans (RdF.x hx), ⟨by rw [hI_o (by omega)]; exact I.2.1.1, by rw [hI_o (by omega)]; exact I.2.1.2⟩, ⟨by rw [hI_ne (by omega)]; exact I.2.2.1.1, I.2.2.1.2⟩, I.2.2.2⟩
theorem c_bya {K : Int32 → Hp → Prop} (R : Rd0 x0 b L M S h) {i : Nat} (hi : i < 2 ^ 31) (k : K (M i) h) : Ca d m_By_at [.ref 5, .int (iv i)] h (QI K) := by
  refine c_By_at R.2.2.1.1 hi ?_
  by_cases c : i < L
  · rw [if_pos c, R.2.2.1.2.1 i c]; exact k
  · rw [if_neg c]; rw [R.2.2.1.2.2 i (by omega)] at k; exact k
theorem c_nextBit {K : Int32 → Hp → Prop} (R : Rd0 x0 b L M S h) {B : Nat} (hB : B < 8000) (e : hI h x0 0 = iv B) (k : K (bitAt M B) (sI h x0 0 (iv (B + 1)))) : Ca (d + 1) m_Re_nextBit [.ref x0] h (QI K) := by
  refine w_Re_nextBit ⟨R.1.1, ?_⟩
  rw [R.1.2.1, e, iv_div8 (by omega)]
  refine ⟨R.2.2.1.1.1, c_bya R (by omega) ⟨R.1.1, ?_⟩⟩
  rw [e, iv_mod8 (by omega), iv1, iv_add]
  rintro _ rfl _ rfl
  exact k
theorem getD_app {w : List Int64} {v : Int64} {i : Nat} (h : i < w.length) : (w ++ [v]).getD i 0 = w.getD i 0 := by
  rw [List.getD_eq_getElem?_getD, List.getD_eq_getElem?_getD, List.getElem?_append_left h]
theorem getD_end {w : List Int64} {v : Int64} : (w ++ [v]).getD w.length 0 = v := by
  rw [List.getD_eq_getElem?_getD, List.getElem?_append_right (Nat.le_refl _), Nat.sub_self]; rfl
theorem c_keep {K : Int32 → Hp → Prop} {k : Nat} {s : Ps (List Int64)} {v : Int64} {B : Nat} (R0 : Rd0 x0 b L M S h0) (hk : k < S.1) (I : InU x0 b S h0 k s h) (e : hI h x0 0 = iv B) (hB : B ≤ 8 * L) (fx : hL h (b + 2 + k) 11 = loT S k ∧ hL h (b + 2 + k) 12 = hiT S k)
    (kk : ∀ h', Ro (RcR x0 b L S h0) (ReR x0 b h0) (mkU S k s (kpP S k v B s.2.1)) h' → K (kpP S k v B s.2.1).1 h') : Ca (d + 1) m_Re_keep [.ref x0, .ref (b + 2 + k), .long v] h (QI K) := by
  obtain ⟨R, LN⟩ := R0.now I.1 I.2.2.1
  have s2 : (hS h (b + 2 + k)).1 = 2 := CpT.s2 R.2.1.2.1 R.2.1.1 hk
  have b1 := R.2.1.2.2.1
  have b2 := R.2.1.2.2.2
  have x231 := R.1.2.2.2
  have u90 := R.2.1.1.1.1.2
  have re : ReR x0 b h0 (iv (s.1 / 8)) (tG S k 7) h := ⟨I.1, I.2.1, ⟨_, LN⟩⟩
  unfold kpP at kk
  refine w_Re_keep ⟨s2, w_No_holds ⟨s2, ?_⟩⟩
  rw [fx.1, fx.2]
  have bad : (v < loT S k ∨ hiT S k < v) ∨ ¬ s.2.1.length < 160 → K 2 h := fun c => by
    rw [if_pos c] at kk
    exact kk h ⟨fun z => absurd z (show ¬ (2 : Int32) = 0 by decide), re⟩
  by_cases c1 : v < loT S k
  · rw [if_pos c1, if_pos rfl]; exact bad (Or.inl (Or.inl c1))
  rw [if_neg c1]
  by_cases c2 : hiT S k < v
  · rw [if_pos c2, if_pos rfl]; exact bad (Or.inl (Or.inr c2))
  rw [if_neg c2, if_neg (by decide), R.1.2.2.1]
  refine ⟨R.1.1, LN.1, c_Lo_append LN v (fun z => ?_) fun z => ?_⟩
  · rw [if_pos rfl]; exact bad (Or.inr (by omega))
  · rw [if_neg (by decide)]
    refine ⟨s2, ?_⟩
    rintro _ rfl
    rw [if_neg (fun q => q.elim (fun q => q.elim c1 c2) fun q => q z)] at kk
    refine kk _ ⟨fun _ => ?_, ?_⟩
    · refine ⟨((I.1.trans RdF.l).trans RdF.f).trans (RdF.n (by omega)), ⟨?_, hB⟩, ⟨?_, ?_⟩, ⟨?_, ?_, fun i hi => ?_⟩, fun q w hq => ?_⟩
      · rw [hI_sL, hI_ne (by omega), hI_sL]; exact e
      · rw [hI_sL, hI_ne (by omega), hI_sL]; exact I.2.1.1
      · rw [hI_sL, hI_ne (by omega), hI_sL]; exact I.2.1.2
      · rw [hI_sL, hI_s]
        show iv (s.2.1.length + 1) = iv (s.2.1 ++ [v]).length
        rw [List.length_append]; rfl
      · show (s.2.1 ++ [v]).length ≤ 160
        rw [List.length_append]; exact z
      · have hi : i < (s.2.1 ++ [v]).length := hi
        rw [List.length_append] at hi
        have hi : i < s.2.1.length + 1 := hi
        rw [hL_o (by omega), hL_sI]
        show _ = (s.2.1 ++ [v]).getD i 0
        by_cases ei : i = s.2.1.length
        · rw [ei, hL_s, getD_end]
        · rw [hL_o (by omega), getD_app (by omega)]
          exact I.2.2.1.2.2 i (by omega)
      · have hq : (if q = k ∧ sz (tG S k 0) = true then some v else s.2.2.1 q) = some w := hq
        by_cases c : q = k
        · subst c
          by_cases z : sz (tG S q 0) = true
          · rw [if_pos ⟨rfl, z⟩] at hq
            rw [hL_s]
            exact ⟨⟨hk, z⟩, Option.some.inj hq⟩
          · rw [if_neg (fun y => z y.2)] at hq
            exact absurd (I.2.2.2 q w hq).1.2 z
        · rw [if_neg (fun z => c z.1)] at hq
          have := I.2.2.2 q w hq
          refine ⟨this.1, ?_⟩
          rw [hL_o (by omega), hL_sI, hL_o (by omega)]
          exact this.2
    · refine ⟨((I.1.trans RdF.l).trans RdF.f).trans (RdF.n (by omega)), ⟨?_, ?_⟩, ⟨s.2.1.length + 1, ?_⟩⟩
      · rw [hI_sL, hI_ne (by omega), hI_sL]; exact I.2.1.1
      · rw [hI_sL, hI_ne (by omega), hI_sL]; exact I.2.1.2
      · exact LN.fr ((RdF.l.trans RdF.f).trans (RdF.n (b := b) (x0 := x0) (k := k) (by omega))) (by rw [hI_sL, hI_s]) (by omega)
end RDC
