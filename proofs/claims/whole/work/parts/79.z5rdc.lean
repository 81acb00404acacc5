/-! the class reads so: bits, numbers, spare bits, a unit -/
section RDC3
variable {d x0 b L : Nat} {M : Nat → Int32} {S : Tb} {h0 h : Hp} {k : Nat} {s : Ps (List Int64)}
theorem c_bits29 {K : Int32 → Hp → Prop} (R0 : Rd0 x0 b L M S h0) (T : TW S) (hk : k < S.1) (c : tG S k 0 = 112) (hB : s.1 + dgN S k ≤ 8 * L)
    (kk : ∀ h', Ro (RcR x0 b L S h0) (ReR x0 b h0) (mkU S k s (kpP S k (bitsV M s.1 (dgN S k)) (s.1 + dgN S k) s.2.1)) h' → K (kpP S k (bitsV M s.1 (dgN S k)) (s.1 + dgN S k) s.2.1).1 h') : ∀ (r j : Nat) (h : Hp), j + r = dgN S k → InU x0 b S h0 k s h → hI h x0 0 = iv (s.1 + j) → Wp (d + 2) m_Re_passBits 29 [some (.ref x0), some (.ref (b + 2 + k)), some (.long (bitsV M s.1 j)), none, some (.int (iv j))] [] h (QI K) := by
  have hz : sz (tG S k 0) = true := by rw [c]; rfl
  intro r
  induction r with
  | zero =>
    intro j h e I eB
    obtain ⟨R, LN⟩ := R0.now I.1 I.2.2.1
    have l120 := R.2.2.1.1.2.2.2.2.2.1
    have s2 : (hS h (b + 2 + k)).1 = 2 := CpT.s2 R.2.1.2.1 R.2.1.1 hk
    have F := R.2.1.1.1
    have wd : hI h (b + 2 + k) 1 = iv (dgN S k) := by
      rw [(F.2.2.1 k hk).1]; unfold wdT
      rw [if_neg (by rw [c]; decide), if_neg (by rw [c]; decide), if_pos hz]
      exact (dg_num' (T.2.2.1 k hk).1 hz).1
    refine w_Re_passBits_29 ⟨s2, ?_⟩
    rw [wd, if_neg (fun z => by have := (iv_lt (by omega) (by omega)).mp z; omega)]
    have ej : j = dgN S k := by omega
    rw [ej] at eB ⊢
    exact ⟨R.1.1, c_keep R0 hk I eB hB (F.2.2.1 k hk).2.2 kk⟩
  | succ r ih =>
    intro j h e I eB
    obtain ⟨R, LN⟩ := R0.now I.1 I.2.2.1
    have l120 := R.2.2.1.1.2.2.2.2.2.1
    have s2 : (hS h (b + 2 + k)).1 = 2 := CpT.s2 R.2.1.2.1 R.2.1.1 hk
    have F := R.2.1.1.1
    have wd : hI h (b + 2 + k) 1 = iv (dgN S k) := by
      rw [(F.2.2.1 k hk).1]; unfold wdT
      rw [if_neg (by rw [c]; decide), if_neg (by rw [c]; decide), if_pos hz]
      exact (dg_num' (T.2.2.1 k hk).1 hz).1
    refine w_Re_passBits_29 ⟨s2, ?_⟩
    rw [wd, if_pos ((iv_lt (by omega) (by omega)).mpr (by omega))]
    refine ⟨R.1.1, c_nextBit (d := d) R (by omega) eB ?_⟩
    rw [iv1, iv_add]
    rintro _ rfl _ rfl
    exact ih (j + 1) _ (by omega) (I.bit R.1.2.2.2 R.2.1.2.2.2) hI_s
theorem c_bits {K : Int32 → Hp → Prop} (R0 : Rd0 x0 b L M S h0) (T : TW S) (hk : k < S.1) (c : tG S k 0 = 112) (I : InU x0 b S h0 k s h) (eB : hI h x0 0 = iv s.1) (hB : s.1 ≤ 8 * L)
    (kk : ∀ h', Ro (RcR x0 b L S h0) (ReR x0 b h0) (mkU S k s (URd M L S k s.1 s.2.1)) h' → K (URd M L S k s.1 s.2.1).1 h') : Ca (d + 2) m_Re_passBits [.ref x0, .ref (b + 2 + k)] h (QI K) := by
  obtain ⟨R, LN⟩ := R0.now I.1 I.2.2.1
  have BL := R.2.2.1.1
  have l120 := BL.2.2.2.2.2.1
  have hz : sz (tG S k 0) = true := by rw [c]; rfl
  have F := R.2.1.1.1
  have dg := dg_num' (T.2.2.1 k hk).1 hz
  have wd : hI h (b + 2 + k) 1 = iv (dgN S k) := by
    rw [(F.2.2.1 k hk).1]; unfold wdT
    rw [if_neg (by rw [c]; decide), if_neg (by rw [c]; decide), if_pos hz]
    exact dg.1
  unfold URd at kk
  rw [if_pos c] at kk
  refine w_Re_passBits ⟨CpT.s2 R.2.1.2.1 R.2.1.1 hk, R.1.1, ?_⟩
  rw [R.1.2.1, BL.2.2.2.2.1, eB, wd, show (8 : Int32) = iv 8 from rfl, iv_mul, iv_sub hB]
  refine ⟨BL.1, ?_⟩
  by_cases q : 8 * L < s.1 + dgN S k
  · rw [if_pos ((iv_lt (by omega) (by omega)).mpr (by omega))]
    rw [if_pos q] at kk
    exact kk h ⟨fun z => absurd z (show ¬ (1 : Int32) = 0 by decide), I.re R0⟩
  · rw [if_neg (fun z => q (by have := (iv_lt (by omega) (by omega)).mp z; omega))]
    rw [if_neg q] at kk
    exact c_bits29 R0 T hk c (by omega) kk (dgN S k) 0 h (by omega) I eB
theorem c_num28 {K : Int32 → Hp → Prop} (R0 : Rd0 x0 b L M S h0) (hk : k < S.1) (I : InU x0 b S h0 k s h) (eB : hI h x0 0 = iv s.1) (hB : s.1 ≤ 8 * L) (hw : wdT S k = iv (wdN S k) ∧ 1 ≤ wdN S k ∧ wdN S k ≤ 8) (hl : s.1 + 8 * wdN S k ≤ 8 * L)
    (kk : ∀ h', Ro (RcR x0 b L S h0) (ReR x0 b h0) (mkU S k s (kpP S k (sgnV (tG S k 0) (wdN S k) (numV M (bfN s.1) (wdN S k) (decide (tG S k 0 = 118)) (wdN S k))) (s.1 + 8 * wdN S k) s.2.1)) h' → K (kpP S k (sgnV (tG S k 0) (wdN S k) (numV M (bfN s.1) (wdN S k) (decide (tG S k 0 = 118)) (wdN S k))) (s.1 + 8 * wdN S k) s.2.1).1 h') : ∀ (r j : Nat) (y6 : Option Value), j + r = wdN S k → Wp (d + 2) m_Re_passNumber 28 [some (.ref x0), some (.ref (b + 2 + k)), some (.int (iv (bfN s.1))), some (.long (numV M (bfN s.1) (wdN S k) (decide (tG S k 0 = 118)) j)), none, some (.int (iv j)), y6] [] h (QI K) := by
  obtain ⟨R, LN⟩ := R0.now I.1 I.2.2.1
  have BL := R.2.2.1.1
  have l120 := BL.2.2.2.2.2.1
  have s2 : (hS h (b + 2 + k)).1 = 2 := CpT.s2 R.2.1.2.1 R.2.1.1 hk
  have F := R.2.1.1.1
  have wd : hI h (b + 2 + k) 1 = iv (wdN S k) := by rw [(F.2.2.1 k hk).1]; exact hw.1
  have kd : hI h (b + 2 + k) 0 = tG S k 0 := (F.2.1 k hk).1
  have bl : bfN s.1 < 1000 := by unfold bfN; omega
  intro r
  induction r with
  | zero =>
    intro j y6 e
    have ej : j = wdN S k := by omega
    subst ej
    refine w_Re_passNumber_28 ⟨s2, ?_⟩
    rw [wd, if_neg (fun z => by have := (iv_lt (by omega) (by omega)).mp z; omega)]
    have p113 : ∀ y5 v, v = sgnV (tG S k 0) (wdN S k) (numV M (bfN s.1) (wdN S k) (decide (tG S k 0 = 118)) (wdN S k)) → Wp (d + 2) m_Re_passNumber 113 [some (.ref x0), some (.ref (b + 2 + k)), some (.int (iv (bfN s.1))), some (.long v), none, y5, y6] [] h (QI K) := by
      intro y5 v ev
      refine w_Re_passNumber_113 ⟨R.1.1, s2, ?_⟩
      rw [wd, eB, show (8 : Int32) = iv 8 from rfl, iv_mul, iv_add]
      rintro _ rfl
      have I' := I.bit (v := iv (s.1 + 8 * wdN S k)) R.1.2.2.2 R.2.1.2.2.2
      have F' := (R0.now I'.1 I'.2.2.1).1.2.1.1.1
      rw [ev]
      exact c_keep R0 hk I' hI_s hl (F'.2.2.1 k hk).2.2 kk
    refine w_No_mayBeNegative ⟨s2, ?_⟩
    rw [kd]
    have neg : mNeg (tG S k 0) = true → (hS h (b + 2 + k)).1 = 2 ∧ ∀ v28 : Int32, v28 = 64 - 8 * hI h (b + 2 + k) 1 → ∀ v29 : Int64, v29 = (numV M (bfN s.1) (wdN S k) (decide (tG S k 0 = 118)) (wdN S k) <<< (v28.toInt64 &&& 63)) >>> (v28.toInt64 &&& 63) → Wp (d + 2) m_Re_passNumber 113 [some (.ref x0), some (.ref (b + 2 + k)), some (.int (iv (bfN s.1))), some (.long v29), none, some (.int v28), y6] [] h (QI K) := by
      intro n
      refine ⟨s2, ?_⟩
      rw [wd, show (8 : Int32) = iv 8 from rfl, iv_mul, show (64 : Int32) = iv 64 from rfl, iv_sub (by omega)]
      rintro _ rfl _ rfl
      refine p113 _ _ ?_
      unfold sgnV
      rw [if_pos n]
    by_cases c1 : tG S k 0 = 115
    · rw [if_pos c1, if_neg (by decide)]
      exact neg (by rw [c1]; rfl)
    rw [if_neg c1]
    by_cases c2 : tG S k 0 = 102
    · rw [if_pos c2, if_neg (by decide)]
      exact neg (by rw [c2]; rfl)
    rw [if_neg c2]
    by_cases c3 : tG S k 0 = 100
    · rw [if_pos c3, if_neg (by decide)]
      exact neg (by rw [c3]; rfl)
    rw [if_neg c3, if_pos rfl]
    refine p113 _ _ ?_
    unfold sgnV
    rw [if_neg]
    unfold mNeg
    simp [c1, c2, c3]
  | succ r ih =>
    intro j y6 e
    refine w_Re_passNumber_28 ⟨s2, ?_⟩
    rw [wd, if_pos ((iv_lt (by omega) (by omega)).mpr (by omega)), kd]
    by_cases c : tG S k 0 = 118
    · rw [if_pos c]
      rintro _ rfl
      rw [R.1.2.1, iv1, iv_sub (by omega), iv_sub (by omega), iv_add]
      refine ⟨R.1.1, BL.1, c_bya R (by omega) ?_⟩
      rw [iv_add]
      rintro _ rfl _ rfl
      have := ih (j + 1) (some (.int (iv (wdN S k - 1 - j)))) (by omega)
      unfold numV at this
      rw [if_pos (by rw [c]; rfl)] at this
      exact this
    · rw [if_neg c, R.1.2.1, iv_add]
      refine ⟨R.1.1, BL.1, c_bya R (by omega) ?_⟩
      rw [iv1, iv_add]
      rintro _ rfl _ rfl
      have := ih (j + 1) (some (.int (iv j))) (by omega)
      unfold numV at this
      rw [if_neg (by simp [c])] at this
      exact this
theorem c_num {K : Int32 → Hp → Prop} (R0 : Rd0 x0 b L M S h0) (T : TW S) (hk : k < S.1) (hu : sz (tG S k 0) = true ∨ sm (tG S k 0) = true) (c0 : ¬ tG S k 0 = 112) (c1 : ¬ tG S k 0 = 114) (c2 : ¬ tG S k 0 = 122) (I : InU x0 b S h0 k s h) (eB : hI h x0 0 = iv s.1) (hB : s.1 ≤ 8 * L)
    (kk : ∀ h', Ro (RcR x0 b L S h0) (ReR x0 b h0) (mkU S k s (URd M L S k s.1 s.2.1)) h' → K (URd M L S k s.1 s.2.1).1 h') : Ca (d + 2) m_Re_passNumber [.ref x0, .ref (b + 2 + k)] h (QI K) := by
  obtain ⟨R, LN⟩ := R0.now I.1 I.2.2.1
  have BL := R.2.2.1.1
  have l120 := BL.2.2.2.2.2.1
  have s2 : (hS h (b + 2 + k)).1 = 2 := CpT.s2 R.2.1.2.1 R.2.1.1 hk
  have hw := wd_num (T.2.2.1 k hk).1 hu c0 c1 c2
  have wd : hI h (b + 2 + k) 1 = iv (wdN S k) := by rw [(R.2.1.1.1.2.2.1 k hk).1]; exact hw.1
  have bl : bfN s.1 ≤ L := by unfold bfN; omega
  unfold URd at kk
  rw [if_neg c0, if_neg c1, if_neg c2] at kk
  refine w_Re_passNumber ⟨R.1.1, w_Co_bytesPassed ⟨Or.inl R.1.1, s2, R.1.1, ?_⟩⟩
  rw [R.1.2.1, BL.2.2.2.2.1, eB, by_num (by omega), wd, iv_sub bl]
  refine ⟨BL.1, ?_⟩
  by_cases q : L < bfN s.1 + wdN S k
  · rw [if_pos ((iv_lt (by omega) (by omega)).mpr (by omega))]
    rw [if_pos q] at kk
    exact kk h ⟨fun z => absurd z (show ¬ (1 : Int32) = 0 by decide), I.re R0⟩
  · rw [if_neg (fun z => q (by have := (iv_lt (by omega) (by omega)).mp z; omega))]
    rw [if_neg q] at kk
    exact c_num28 R0 hk I eB hB hw (by unfold bfN at q; omega) kk (wdN S k) 0 none (by omega)
end RDC3
