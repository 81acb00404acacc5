/-! the class reads so: all of it -/
section RDC4
variable {d x0 b L : Nat} {M : Nat → Int32} {S : Tb} {h0 h : Hp} {k : Nat} {s : Ps (List Int64)}
theorem RcR.bit {B : Nat} (R0 : Rd0 x0 b L M S h0) (r : RcR x0 b L S h0 s h) (hB : B ≤ 8 * L) : RcR x0 b L S h0 (B, s.2) (sI h x0 0 (iv B)) := by
  have hx := R0.1.2.2.2
  have hb := R0.2.1.2.2.2
  exact ⟨r.1.trans (RdF.x hx), ⟨hI_s, hB⟩, ⟨by rw [hI_o (by omega)]; exact r.2.2.1.1, by rw [hI_o (by omega)]; exact r.2.2.1.2⟩, ⟨by rw [hI_ne (by omega)]; exact r.2.2.2.1.1, r.2.2.2.1.2⟩, r.2.2.2.2⟩
theorem RcR.re (R0 : Rd0 x0 b L M S h0) (r : RcR x0 b L S h0 s h) : ReR x0 b h0 s.2.2.2.1 s.2.2.2.2 h := ⟨r.1, r.2.2.1, ⟨_, (R0.now r.1 r.2.2.2.1).2⟩⟩
theorem RcR.bse (R0 : Rd0 x0 b L M S h0) (r : RcR x0 b L S h0 s h) : Bse x0 b S s h := by
  obtain ⟨R, LN⟩ := R0.now r.1 r.2.2.2.1
  have l120 := R.2.2.1.1.2.2.2.2.2.1
  have := r.2.1.2
  exact ⟨Or.inl R.1.1, ⟨R.2.1.1, R.2.1.2.1⟩, ⟨r.2.1.1, by omega⟩, fun q v hq => ⟨(r.2.2.2.2 q v hq).1.1, (r.2.2.2.2 q v hq).2⟩⟩
theorem c_spare2 {K : Int32 → Hp → Prop} (R0 : Rd0 x0 b L M S h0) : ∀ (f j : Nat) (s : Ps (List Int64)) (h : Hp), j + f = 7 → RcR x0 b L S h0 s h → (∀ h', Ro (RcR x0 b L S h0) (ReR x0 b h0) ((spF M f s.1).1, (spF M f s.1).2, s.2) h' → K (spF M f s.1).1 h') → Wp (d + 2) m_Re_passSpare 2 [some (.ref x0), some (.int (iv j))] [] h (QI K)
  | 0, j, s, h, e, r, kk => by
    refine w_Re_passSpare_2 ?_
    rw [if_neg (fun z => by have := (iv_lt (a := j) (b := 7) (by omega) (by omega)).mp z; omega)]
    exact kk h ⟨fun _ => r, r.re R0⟩
  | f + 1, j, s, h, e, r, kk => by
    obtain ⟨R, LN⟩ := R0.now r.1 r.2.2.2.1
    have l120 := R.2.2.1.1.2.2.2.2.2.1
    have hB := r.2.1.2
    refine w_Re_passSpare_2 ?_
    rw [if_pos (show iv j < 7 from (iv_lt (a := j) (b := 7) (by omega) (by omega)).mpr (by omega)), r.2.1.1, iv_mod8 (by omega)]
    refine ⟨R.1.1, ?_⟩
    unfold spF at kk
    have z8 : iv (s.1 % 8) = (0 : Int32) ↔ s.1 % 8 = 0 := iv_inj (a := s.1 % 8) (b := 0) (by omega) (by omega)
    by_cases q : s.1 % 8 = 0
    · rw [if_pos (z8.mpr q)]
      rw [if_pos q] at kk
      exact kk h ⟨fun _ => r, r.re R0⟩
    · rw [if_neg (fun z => q (z8.mp z))]
      rw [if_neg q] at kk
      have r' := r.bit (B := s.1 + 1) R0 (by omega)
      refine c_nextBit (d := d) R (by omega) r.2.1.1 ?_
      by_cases z : bitAt M s.1 = 0
      · rw [if_pos z, iv1, iv_add]
        rintro _ rfl
        rw [if_pos z] at kk
        exact c_spare2 R0 f (j + 1) (s.1 + 1, s.2) _ (by omega) r' kk
      · rw [if_neg z]
        rw [if_neg z] at kk
        exact kk _ ⟨fun y => absurd y (show ¬ (2 : Int32) = 0 by decide), r'.re R0⟩
theorem rd_sp (R0 : Rd0 x0 b L M S h0) : SpC x0 (spRd M) (RcR x0 b L S h0) (ReR x0 b h0) := fun d s h K r kk => by
  have R := (R0.now r.1 r.2.2.2.1).1
  rw [if_pos R.1.1]
  refine w_Re_passSpare ?_
  exact c_spare2 (d := d + 4) R0 7 0 s h rfl r kk
theorem rd_un (R0 : Rd0 x0 b L M S h0) (T : TW S) : UnC x0 b S (URd M L S) (RcR x0 b L S h0) (ReR x0 b h0) := fun d k s h K hk hu r kk => by
  obtain ⟨R, LN⟩ := R0.now r.1 r.2.2.2.1
  have l120 := R.2.2.1.1.2.2.2.2.2.1
  have hB := r.2.1.2
  have hx := R.1.2.2.2
  have b1 := R.2.1.2.2.1
  have b2 := R.2.1.2.2.2
  have u90 := R.2.1.1.1.1.2
  have F := R.2.1.1.1
  have kd : hI h (b + 2 + k) 0 = tG S k 0 := (F.2.1 k hk).1
  have nmk : hI h (b + 2 + k) 2 = tG S k 7 := (F.2.1 k hk).2.1
  refine w_Co_passUnit ⟨Or.inl R.1.1, ?_⟩
  rw [r.2.1.1, iv_div8 (by omega)]
  rintro _ rfl
  refine ⟨CpT.s2 R.2.1.2.1 R.2.1.1 hk, ?_⟩
  rw [hI_ne (by omega), nmk]
  rintro _ rfl
  rw [hI_ne (by omega), hI_ne (by omega), kd, if_pos R.1.1, if_pos R.1.1, if_pos R.1.1, if_pos R.1.1]
  have I : InU x0 b S h0 k s (sI (sI h x0 1 (iv (s.1 / 8))) x0 2 (tG S k 7)) := ⟨(r.1.trans (RdF.x hx)).trans (RdF.x hx), ⟨by rw [hI_o (by omega), hI_s], hI_s⟩, ⟨by rw [hI_ne (by omega), hI_ne (by omega)]; exact r.2.2.2.1.1, r.2.2.2.1.2⟩, r.2.2.2.2⟩
  have eB : hI (sI (sI h x0 1 (iv (s.1 / 8))) x0 2 (tG S k 7)) x0 0 = iv s.1 := by rw [hI_o (by omega), hI_o (by omega)]; exact r.2.1.1
  have ti : ∀ m : Nat, m < 200 → ((tG S k 0).toInt = (m : Int) ↔ tG S k 0 = iv m) := fun m hm => by rw [← iv_toInt (n := m) (by omega), Int32.toInt_inj]
  have t112 : (tG S k 0).toInt = 112 ↔ tG S k 0 = 112 := ti 112 (by decide)
  have t114 : (tG S k 0).toInt = 114 ↔ tG S k 0 = 114 := ti 114 (by decide)
  have t122 : (tG S k 0).toInt = 122 ↔ tG S k 0 = 122 := ti 122 (by decide)
  by_cases c0 : tG S k 0 = 112
  · rw [if_pos (t112.mpr c0)]
    exact c_bits R0 T hk c0 I eB hB kk
  rw [if_neg (fun z => c0 (t112.mp z))]
  by_cases c1 : tG S k 0 = 114
  · rw [if_pos (t114.mpr c1)]
    exact c_rest R0 hk c1 I eB hB kk
  rw [if_neg (fun z => c1 (t114.mp z))]
  by_cases c2 : tG S k 0 = 122
  · rw [if_pos (t122.mpr c2)]
    have R' := (R0.now I.1 I.2.2.1).1
    refine w_Re_passWords ⟨R.1.1, w_Co_bytesPassed ⟨Or.inl R.1.1, R.1.1, ?_⟩⟩
    rw [R'.1.2.1, R'.2.2.1.1.2.2.2.2.1, eB, by_num (by omega), iv_sub (by unfold bfN; omega)]
    refine ⟨R'.2.2.1.1.1, ?_⟩
    rintro _ rfl
    exact c_words17 R0 hk c2 I eB hB kk 21 0 rfl (Nat.zero_le _) rfl
  rw [if_neg (fun z => c2 (t122.mp z))]
  exact c_num R0 T hk hu c0 c1 c2 I eB hB kk
end RDC4
