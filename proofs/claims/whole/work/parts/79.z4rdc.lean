/-! the class reads so: rows of bytes, bits, numbers -/
section RDC2
variable {d x0 b L : Nat} {M : Nat → Int32} {S : Tb} {h0 h : Hp} {k : Nat} {s : Ps (List Int64)}
theorem InU.app {v : Int64} (I : InU x0 b S h0 k s h) (hx : 231 ≤ x0) (z : s.2.1.length < 160) (hb : 13 ≤ b) : InU x0 b S h0 k (s.1, s.2.1 ++ [v], s.2.2) (sI (sL h 12 s.2.1.length v) 11 1 (iv (s.2.1.length + 1))) ∧ hI (sI (sL h 12 s.2.1.length v) 11 1 (iv (s.2.1.length + 1))) x0 0 = hI h x0 0 := by
  refine ⟨⟨(I.1.trans RdF.l).trans RdF.f, ⟨?_, ?_⟩, ⟨?_, ?_, fun i hi => ?_⟩, fun q w hq => ?_⟩, ?_⟩
  · rw [hI_ne (by omega), hI_sL]; exact I.2.1.1
  · rw [hI_ne (by omega), hI_sL]; exact I.2.1.2
  · rw [hI_s]
    show iv (s.2.1.length + 1) = iv (s.2.1 ++ [v]).length
    rw [List.length_append]; rfl
  · show (s.2.1 ++ [v]).length ≤ 160
    rw [List.length_append]; exact z
  · have hi : i < (s.2.1 ++ [v]).length := hi
    rw [List.length_append] at hi
    have hi : i < s.2.1.length + 1 := hi
    rw [hL_sI]
    show _ = (s.2.1 ++ [v]).getD i 0
    by_cases ei : i = s.2.1.length
    · rw [ei, hL_s, getD_end]
    · rw [hL_o (by omega), getD_app (by omega)]
      exact I.2.2.1.2.2 i (by omega)
  · rw [hL_sI, hL_o (by omega)]
    exact I.2.2.2 q w hq
  · rw [hI_ne (by omega), hI_sL]
theorem InU.re (R0 : Rd0 x0 b L M S h0) (I : InU x0 b S h0 k s h) : ReR x0 b h0 (iv (s.1 / 8)) (tG S k 7) h := ⟨I.1, I.2.1, ⟨_, (R0.now I.1 I.2.2.1).2⟩⟩
theorem kb_bad {K : Int32 → Hp → Prop} {p m : Nat} (hm : m < 1000) (k2 : K 2 h) : ∀ (r j : Nat), j + r = m → Wp (d + 1) m_Re_keepBytes 13 [some (.ref x0), some (.int (iv p)), some (.int (iv m)), some (.int 0), some (.int (iv j))] [] h (QI K)
  | 0, j, e => by
    refine w_Re_keepBytes_13 ?_
    rw [if_neg (fun z => by have := (iv_lt (by omega) (by omega)).mp z; omega), if_pos rfl]; exact k2
  | r + 1, j, e => by
    refine w_Re_keepBytes_13 ?_
    rw [if_pos ((iv_lt (by omega) (by omega)).mpr (by omega)), if_pos rfl, iv1, iv_add]
    rintro _ rfl
    exact kb_bad hm k2 r (j + 1) (by omega)
theorem bysV_len {p : Nat} : ∀ j, (bysV M p j).length = j
  | 0 => rfl
  | j + 1 => by unfold bysV; rw [List.length_append, bysV_len j]; rfl
theorem kb_good {K : Int32 → Hp → Prop} {p m B : Nat} (R0 : Rd0 x0 b L M S h0) (hk : k < S.1) (hm : m < 1000) (hp : p < 1000) (ns : ¬ sz (tG S k 0) = true) (hB : B ≤ 8 * L)
    (kk : ∀ h', Ro (RcR x0 b L S h0) (ReR x0 b h0) (mkU S k s (kbP M p m B s.2.1)) h' → K (kbP M p m B s.2.1).1 h') : ∀ (r j : Nat) (h : Hp), j + r = m → InU x0 b S h0 k (s.1, s.2.1 ++ jv m :: bysV M p j, s.2.2) h → hI h x0 0 = iv B → Wp (d + 1) m_Re_keepBytes 13 [some (.ref x0), some (.int (iv p)), some (.int (iv m)), some (.int 1), some (.int (iv j))] [] h (QI K)
  | 0, j, h, e, I, eB => by
    refine w_Re_keepBytes_13 ?_
    rw [if_neg (fun z => by have := (iv_lt (by omega) (by omega)).mp z; omega), if_neg (by decide)]
    have l := I.2.2.1.2.1
    have l : (s.2.1 ++ jv m :: bysV M p j).length ≤ 160 := l
    rw [List.length_append, List.length_cons, bysV_len] at l
    have ej : j = m := by omega
    unfold kbP at kk
    rw [if_pos (by omega)] at kk
    refine kk h ⟨fun _ => ⟨I.1, ⟨eB, hB⟩, I.2.1, ?_, fun q v hq => ?_⟩, InU.re (s := (s.1, s.2.1 ++ jv m :: bysV M p j, s.2.2)) R0 I⟩
    · have := I.2.2.1
      rw [ej] at this; exact this
    · have hq : (if q = k ∧ sz (tG S k 0) = true then some (0 : Int64) else s.2.2.1 q) = some v := hq
      rw [if_neg (fun z => ns z.2)] at hq
      exact I.2.2.2 q v hq
  | r + 1, j, h, e, I, eB => by
    obtain ⟨R, LN⟩ := R0.now I.1 I.2.2.1
    refine w_Re_keepBytes_13 ?_
    rw [if_pos ((iv_lt (by omega) (by omega)).mpr (by omega)), if_neg (by decide), R.1.2.1, R.1.2.2.1, iv_add]
    have l : (s.2.1 ++ jv m :: bysV M p j).length = s.2.1.length + 1 + j := by rw [List.length_append, List.length_cons, bysV_len]; omega
    refine ⟨R.1.1, R.2.2.1.1.1, c_bya R (by omega) ⟨LN.1, c_Lo_append LN _ (fun z => ?_) fun z => ?_⟩⟩
    · rw [if_pos rfl, iv1, iv_add]
      rintro _ rfl
      have z : (s.2.1 ++ jv m :: bysV M p j).length = 160 := z
      unfold kbP at kk
      rw [if_neg (by omega)] at kk
      refine kb_bad hm (kk h ⟨fun z => absurd z (show ¬ (2 : Int32) = 0 by decide), InU.re (s := (s.1, s.2.1 ++ jv m :: bysV M p j, s.2.2)) R0 I⟩) r (j + 1) (by omega)
    · rw [if_neg (by decide), iv1, iv_add]
      rintro _ rfl
      obtain ⟨I', e'⟩ := I.app (v := (M (p + j)).toInt64) R.1.2.2.2 z R.2.1.2.2.1
      refine kb_good R0 hk hm hp ns hB kk r (j + 1) _ (by omega) ?_ (e'.trans eB)
      have : (s.2.1 ++ jv m :: bysV M p j) ++ [(M (p + j)).toInt64] = s.2.1 ++ jv m :: bysV M p (j + 1) := by
        rw [List.append_assoc]; rfl
      have I' : InU x0 b S h0 k (s.1, (s.2.1 ++ jv m :: bysV M p j) ++ [(M (p + j)).toInt64], s.2.2) _ := I'
      rw [this] at I'
      exact I'
theorem c_keepBytes {K : Int32 → Hp → Prop} {p m B : Nat} (R0 : Rd0 x0 b L M S h0) (hk : k < S.1) (hm : m < 1000) (hp : p < 1000) (ns : ¬ sz (tG S k 0) = true) (hB : B ≤ 8 * L) (I : InU x0 b S h0 k s h) (eB : hI h x0 0 = iv B)
    (kk : ∀ h', Ro (RcR x0 b L S h0) (ReR x0 b h0) (mkU S k s (kbP M p m B s.2.1)) h' → K (kbP M p m B s.2.1).1 h') : Ca (d + 1) m_Re_keepBytes [.ref x0, .int (iv p), .int (iv m)] h (QI K) := by
  obtain ⟨R, LN⟩ := R0.now I.1 I.2.2.1
  refine w_Re_keepBytes ⟨R.1.1, ?_⟩
  rw [R.1.2.2.1]
  refine ⟨LN.1, c_Lo_append LN _ (fun z => ?_) fun z => ?_⟩
  · have kk2 := kk
    unfold kbP at kk2
    rw [if_neg (by omega)] at kk2
    exact kb_bad hm (kk2 h ⟨fun z => absurd z (show ¬ (2 : Int32) = 0 by decide), I.re R0⟩) m 0 (by omega)
  · obtain ⟨I', e'⟩ := I.app (v := jv m) R.1.2.2.2 z R.2.1.2.2.1
    rw [iv_jv (by omega)]
    exact kb_good R0 hk hm hp ns hB kk m 0 _ (by omega) I' (e'.trans eB)
theorem c_rest {K : Int32 → Hp → Prop} (R0 : Rd0 x0 b L M S h0) (hk : k < S.1) (c : tG S k 0 = 114) (I : InU x0 b S h0 k s h) (eB : hI h x0 0 = iv s.1) (hB : s.1 ≤ 8 * L)
    (kk : ∀ h', Ro (RcR x0 b L S h0) (ReR x0 b h0) (mkU S k s (URd M L S k s.1 s.2.1)) h' → K (URd M L S k s.1 s.2.1).1 h') : Ca (d + 2) m_Re_passRest [.ref x0] h (QI K) := by
  obtain ⟨R, LN⟩ := R0.now I.1 I.2.2.1
  have BL := R.2.2.1.1
  have l120 := BL.2.2.2.2.2.1
  unfold URd at kk
  rw [if_neg (by rw [c]; decide), if_pos c] at kk
  have le : bfN s.1 ≤ L := by unfold bfN; omega
  refine w_Re_passRest ⟨R.1.1, w_Co_bytesPassed ⟨Or.inl R.1.1, R.1.1, ?_⟩⟩
  rw [R.1.2.1, BL.2.2.2.2.1, eB, by_num (by omega), iv_sub le]
  refine ⟨BL.1, ?_⟩
  rintro _ rfl _ rfl
  rw [show (8 : Int32) = iv 8 from rfl, iv_mul, iv_add]
  exact c_keepBytes R0 hk (by omega) (by omega) (by rw [c]; decide) (by unfold bfN; omega) (I.bit R.1.2.2.2 R.2.1.2.2.2) hI_s kk
theorem c_words47 {K : Int32 → Hp → Prop} {n : Nat} (R0 : Rd0 x0 b L M S h0) (hk : k < S.1) (c : tG S k 0 = 122) (I : InU x0 b S h0 k s h) (eB : hI h x0 0 = iv s.1) (hB : s.1 ≤ 8 * L) (en : n = wlF M (bfN s.1) (L - bfN s.1) 21 0) (hn : n ≤ L - bfN s.1)
    (kk : ∀ h', Ro (RcR x0 b L S h0) (ReR x0 b h0) (mkU S k s (URd M L S k s.1 s.2.1)) h' → K (URd M L S k s.1 s.2.1).1 h') : Wp (d + 2) m_Re_passWords 47 [some (.ref x0), some (.int (iv (bfN s.1))), some (.int (iv (L - bfN s.1))), some (.int (iv n))] [] h (QI K) := by
  obtain ⟨R, LN⟩ := R0.now I.1 I.2.2.1
  have BL := R.2.2.1.1
  have l120 := BL.2.2.2.2.2.1
  unfold URd at kk
  rw [if_neg (by rw [c]; decide), if_neg (by rw [c]; decide), if_pos c, ← en] at kk
  refine w_Re_passWords_47 ?_
  by_cases q : 20 < n
  · rw [if_pos (show (20 : Int32) < iv n from (iv_lt (a := 20) (by omega) (by omega)).mpr q)]
    rw [if_pos q] at kk
    exact kk h ⟨fun z => absurd z (show ¬ (2 : Int32) = 0 by decide), I.re R0⟩
  · rw [if_neg (show ¬ (20 : Int32) < iv n from fun z => q ((iv_lt (a := 20) (by omega) (by omega)).mp z))]
    rw [if_neg q] at kk
    by_cases q2 : n = L - bfN s.1
    · rw [if_pos (by rw [q2])]
      rw [if_pos q2] at kk
      exact kk h ⟨fun z => absurd z (show ¬ (1 : Int32) = 0 by decide), I.re R0⟩
    · rw [if_neg (fun z => q2 ((iv_inj (by omega) (by omega)).mp z))]
      rw [if_neg q2] at kk
      refine ⟨R.1.1, ?_⟩
      rw [eB, show (8 : Int32) = iv 8 from rfl, iv_mul, iv_add, iv_add]
      rintro _ rfl
      rw [← Nat.add_assoc]
      exact c_keepBytes R0 hk (by omega) (by unfold bfN; omega) (by rw [c]; decide) (by unfold bfN at *; omega) (I.bit R.1.2.2.2 R.2.1.2.2.2) hI_s kk
theorem c_words17 {K : Int32 → Hp → Prop} (R0 : Rd0 x0 b L M S h0) (hk : k < S.1) (c : tG S k 0 = 122) (I : InU x0 b S h0 k s h) (eB : hI h x0 0 = iv s.1) (hB : s.1 ≤ 8 * L)
    (kk : ∀ h', Ro (RcR x0 b L S h0) (ReR x0 b h0) (mkU S k s (URd M L S k s.1 s.2.1)) h' → K (URd M L S k s.1 s.2.1).1 h') : ∀ (f j : Nat), j + f = 21 → j ≤ L - bfN s.1 → wlF M (bfN s.1) (L - bfN s.1) 21 0 = wlF M (bfN s.1) (L - bfN s.1) f j → Wp (d + 2) m_Re_passWords 17 [some (.ref x0), some (.int (iv (bfN s.1))), some (.int (iv (L - bfN s.1))), some (.int (iv j))] [] h (QI K)
  | 0, j, e, hj, ew => by
    have l120 := (R0.now I.1 I.2.2.1).1.2.2.1.1.2.2.2.2.2.1
    have p47 := c_words47 (d := d) R0 hk c I eB hB ew.symm hj kk
    refine w_Re_passWords_17 ?_
    by_cases q : iv j < iv (L - bfN s.1)
    · rw [if_pos q, if_pos (show (20 : Int32) < iv j from (iv_lt (a := 20) (by omega) (by omega)).mpr (by omega))]; exact p47
    · rw [if_neg q]; exact p47
  | f + 1, j, e, hj, ew => by
    obtain ⟨R, LN⟩ := R0.now I.1 I.2.2.1
    have BL := R.2.2.1.1
    have l120 := BL.2.2.2.2.2.1
    unfold wlF at ew
    refine w_Re_passWords_17 ?_
    by_cases q : j < L - bfN s.1
    · rw [if_pos ((iv_lt (by omega) (by omega)).mpr q), if_neg (fun z => by have := (iv_lt (a := 20) (b := j) (by omega) (by omega)).mp z; omega), R.1.2.1, iv_add]
      rw [if_pos q] at ew
      refine ⟨R.1.1, BL.1, c_bya R (by omega) ?_⟩
      by_cases z : M (bfN s.1 + j) = 0
      · rw [if_pos z] at ew ⊢
        exact c_words47 R0 hk c I eB hB ew.symm hj kk
      · rw [if_neg z] at ew
        rw [if_neg z, iv1, iv_add]
        rintro _ rfl
        exact c_words17 R0 hk c I eB hB kk f (j + 1) (by omega) (by omega) ew
    · rw [if_neg (fun z => q ((iv_lt (by omega) (by omega)).mp z))]
      rw [if_neg q] at ew
      exact c_words47 R0 hk c I eB hB ew.symm hj kk
end RDC2
