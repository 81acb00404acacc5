/-! the class writes so: all of it -/
section WRE
variable {d x0 b n : Nat} {V : Nat → Int64} {S : Tb} {h0 h h' : Hp} {s : Ps Wo} {k : Nat}
theorem wr_sp (R0 : Wr0 x0 b n V S h0) : SpC x0 spWr (RcW x0 b n S h0) (ReW x0 b h0) := fun d s h K r kk => by
  have R := (r.now R0).1
  have hx := R.1.2.2.2
  rw [if_neg (by rw [R.1.1]; decide)]
  refine w_Wr_passSpare ⟨R.1.1, c_by (r.bse R0) ⟨R.1.1, ?_⟩⟩
  rw [show (8 : Int32) = iv 8 from rfl, iv_mul]
  rintro _ rfl
  have r' : RcW x0 b n S h0 (8 * bfN s.1, s.2) (sI h x0 0 (iv (8 * bfN s.1))) := by
    obtain ⟨a1, a2, ⟨a3, a4⟩, ⟨a5, a6⟩, ⟨a7, a8, a9⟩, a10⟩ := r
    have e8 : bfN (8 * bfN s.1) = bfN s.1 := by unfold bfN; omega
    refine ⟨a1.trans (WrF.x hx), hI_s, ⟨by rw [hI_o (by omega)]; exact a3, by rw [hI_o (by omega)]; exact a4⟩, ⟨by rw [hI_o (by omega)]; exact a5, a6⟩, ⟨?_, ?_, fun i hi => ?_⟩, a10⟩
    · rw [hI_ne (by omega), a7]; show _ = iv (bfN (8 * bfN s.1)); rw [e8]
    · show bfN (8 * bfN s.1) ≤ 120; omega
    · have hi : i < bfN (8 * bfN s.1) := hi
      rw [hI_ne (by omega)]; exact a9 i (by omega)
  exact kk _ ⟨fun _ => r', RcW.re (s := (8 * bfN s.1, s.2)) R0 r'⟩
theorem jv_i32' {v : Int64} {N : Nat} (hN : N < 1000) (h1 : ¬ v < 0) (h2 : ¬ jv N < v) : v.toInt32 = iv v.toInt.toNat ∧ v.toInt.toNat ≤ N := by
  have e := jv_of h1
  have l : v.toInt.toNat ≤ N := by
    rw [Int64.lt_iff_toInt_lt, jv_toInt (by omega)] at h2; omega
  refine ⟨?_, l⟩
  generalize v.toInt.toNat = t at e l
  rw [e]; exact jv_i32 (by omega)
theorem wr_un (R0 : Wr0 x0 b n V S h0) (T : TW S) : UnC x0 b S (UWr V n S) (RcW x0 b n S h0) (ReW x0 b h0) := fun d k s h K hk hu r kk => by
  obtain ⟨R, B⟩ := r.now R0
  have hx := R.1.2.2.2
  have b1 := R.2.1.2.2.1
  have b2 := R.2.1.2.2.2
  have u90 := R.2.1.1.1.1.2
  have F := R.2.1.1.1
  have l120 := r.2.2.2.2.1.2.1
  have hB : s.1 < 8000 := by unfold bfN at l120; omega
  have kd : hI h (b + 2 + k) 0 = tG S k 0 := (F.2.1 k hk).1
  have nmk : hI h (b + 2 + k) 2 = tG S k 7 := (F.2.1 k hk).2.1
  refine w_Co_passUnit ⟨Or.inr R.1.1, ?_⟩
  rw [r.2.1, iv_div8 (by omega)]
  rintro _ rfl
  refine ⟨CpT.s2 R.2.1.2.1 R.2.1.1 hk, ?_⟩
  rw [hI_ne (by omega), nmk]
  rintro _ rfl
  have n5 : ¬ (hS h x0).1 = 5 := by rw [R.1.1]; decide
  rw [hI_ne (by omega), hI_ne (by omega), kd, if_neg n5, if_neg n5, if_neg n5, if_neg n5]
  have r2 : RcW x0 b n S h0 (s.1, s.2.1, s.2.2.1, iv (s.1 / 8), tG S k 7) (sI (sI h x0 1 (iv (s.1 / 8))) x0 2 (tG S k 7)) := by
    obtain ⟨a1, a2, ⟨a3, a4⟩, ⟨a5, a6⟩, ⟨a7, a8, a9⟩, a10⟩ := r
    refine ⟨(a1.trans (WrF.x hx)).trans (WrF.x hx), ?_, ⟨by rw [hI_o (by omega), hI_s], hI_s⟩, ⟨?_, a6⟩, ⟨?_, a8, fun i hi => ?_⟩, a10⟩
    · rw [hI_o (by omega), hI_o (by omega)]; exact a2
    · rw [hI_o (by omega), hI_o (by omega)]; exact a5
    · rw [hI_ne (by omega), hI_ne (by omega)]; exact a7
    · rw [hI_ne (by omega), hI_ne (by omega)]; exact a9 i hi
  have kk' : ∀ (o : Int32 × Nat × Wo × Int64), UWr V n S k s.1 s.2.1 = o → ∀ h', (o.1 = 0 → RcW x0 b n S h0 (o.2.1, o.2.2.1, (fun q => if q = k ∧ sz (tG S k 0) = true then some o.2.2.2 else s.2.2.1 q), iv (s.1 / 8), tG S k 7) h') → ReW x0 b h0 (iv (s.1 / 8)) (tG S k 7) h' → K o.1 h' := by
    rintro _ rfl h' a1 a2
    exact kk h' ⟨a1, a2⟩
  have R2 := (r2.now R0).1
  generalize sI (sI h x0 1 (iv (s.1 / 8))) x0 2 (tG S k 7) = h2 at r2 R2 ⊢
  have re2 := RcW.re (s := (s.1, s.2.1, s.2.2.1, iv (s.1 / 8), tG S k 7)) R0 r2
  have ti : ∀ m : Nat, m < 200 → ((tG S k 0).toInt = (m : Int) ↔ tG S k 0 = iv m) := fun m hm => by rw [← iv_toInt (n := m) (by omega), Int32.toInt_inj]
  have t112 : (tG S k 0).toInt = 112 ↔ tG S k 0 = 112 := ti 112 (by decide)
  have t114 : (tG S k 0).toInt = 114 ↔ tG S k 0 = 114 := ti 114 (by decide)
  have t122 : (tG S k 0).toInt = 122 ↔ tG S k 0 = 122 := ti 122 (by decide)
  have end1 : ¬ s.2.1.1 < n → K 1 h2 := fun z => kk' (1, s.1, s.2.1, 0) (by unfold UWr; rw [if_neg z]) h2 (fun y => absurd y (show ¬ (1 : Int32) = 0 by decide)) re2
  have vals0 : ∀ {B : Nat} {w : Wo} {h' : Hp} {x : Int64}, ¬ sz (tG S k 0) = true → RcW x0 b n S h0 (B, w, s.2.2.1, iv (s.1 / 8), tG S k 7) h' → RcW x0 b n S h0 (B, w, (fun q => if q = k ∧ sz (tG S k 0) = true then some x else s.2.2.1 q), iv (s.1 / 8), tG S k 7) h' := by
    intro B w h' x ns a
    refine ⟨a.1, a.2.1, a.2.2.1, a.2.2.2.1, a.2.2.2.2.1, fun q v hq => ?_⟩
    have hq : (if q = k ∧ sz (tG S k 0) = true then some x else s.2.2.1 q) = some v := hq
    rw [if_neg (fun z => ns z.2)] at hq
    exact a.2.2.2.2.2 q v hq
  have wd : ∀ h, Wr0 x0 b n V S h → hI h (b + 2 + k) 1 = wdT S k := fun h R => (R.2.1.1.1.2.2.1 k hk).1
  by_cases c0 : tG S k 0 = 112
  · rw [if_pos (t112.mpr c0)]
    have hz : sz (tG S k 0) = true := by rw [c0]; rfl
    obtain ⟨dg0, dg1, dg7, dg4⟩ := dg_num' (T.2.2.1 k hk).1 hz
    have ew : wdT S k = iv (dgN S k) := by
      unfold wdT
      rw [if_neg (by rw [c0]; decide), if_neg (by rw [c0]; decide), if_pos hz]; exact dg0
    have eU : s.2.1.1 < n → UWr V n S k s.1 s.2.1 = if V s.2.1.1 < loT S k ∨ hiT S k < V s.2.1.1 then (2, s.1, s.2.1, 0) else wth (V s.2.1.1) (pbt (V s.2.1.1) (dgN S k) s.1 (s.2.1.1 + 1, s.2.1.2)) := fun z => by
      unfold UWr
      rw [if_pos z, if_neg (by rw [c0]; decide), if_neg (by rw [c0]; decide), if_pos c0]
    have bad : ∀ (x : Int32) (h' : Hp), ¬ x = 0 → Wr0 x0 b n V S h' → K x h' → (hS h' (b + 2 + k)).1 = 2 ∧ ∀ v6 : Int32, v6 = hI h' (b + 2 + k) 1 - 1 → Wp (d + 5) m_Wr_passBits 13 [some (.ref x0), some (.ref (b + 2 + k)), some (.int x), some (.int v6)] [] h' (QI K) := fun x h' hx0 R' k2 => by
      refine ⟨CpT.s2 R'.2.1.2.1 R'.2.1.1 hk, fun v6 _ => ?_⟩
      refine w_Wr_passBits_13 ?_
      by_cases q : v6 < 0
      · rw [if_pos q]; exact k2
      · rw [if_neg q, if_neg hx0]; exact k2
    refine w_Wr_passBits ⟨R2.1.1, c_wtakeFor (d := d + 2) R0 hk r2 (fun z => bad 1 h2 (by decide) R2 (end1 z)) (fun z z1 h' re => bad 2 h' (by decide) (ReW.now R0 re) (kk' _ (by rw [eU z, if_pos z1]) h' (fun y => absurd y (show ¬ (2 : Int32) = 0 by decide)) re)) fun z z1 h' r' v6 => ?_⟩
    have R' := (r'.now R0).1
    refine ⟨CpT.s2 R'.2.1.2.1 R'.2.1.1 hk, ?_⟩
    rw [wd h' R', ew, dwn_i (by omega)]
    rintro _ rfl
    refine c_wbit13 (d := d + 3) R0 (dgN S k) s.1 _ h' _ (by omega) r' v6 fun h'' ro => ?_
    exact kk' _ (by rw [eU z, if_neg z1]) h'' ro.1 ro.2
  rw [if_neg (fun z => c0 (t112.mp z))]
  by_cases c1 : tG S k 0 = 114
  · rw [if_pos (t114.mpr c1)]
    have ns : ¬ sz (tG S k 0) = true := by rw [c1]; decide
    have eU : s.2.1.1 < n → UWr V n S k s.1 s.2.1 = if V s.2.1.1 < 0 ∨ 120 < V s.2.1.1 then (2, s.1, s.2.1, 0) else wth 0 (pwd V n 0 (V s.2.1.1).toInt.toNat s.1 (s.2.1.1 + 1, s.2.1.2)) := fun z => by
      unfold UWr
      rw [if_pos z, if_pos c1]
    refine w_Wr_passRest ⟨R2.1.1, c_wtake (d := d + 3) R0 r2 (fun z => ?_) (fun z z1 h' re => ?_) fun z z1 h' r' v6 => ?_⟩
    · rw [if_neg (by decide)]; exact end1 z
    · rw [if_neg (by decide)]
      exact kk' _ (by rw [eU z, if_pos z1]) h' (fun y => absurd y (show ¬ (2 : Int32) = 0 by decide)) re
    · rw [if_pos rfl]
      have v6 : hL h' x0 6 = V s.2.1.1 := v6
      have z1 : ¬ (V s.2.1.1 < 0 ∨ 120 < V s.2.1.1) := z1
      obtain ⟨e32, le⟩ := jv_i32' (N := 120) (by decide) (fun y => z1 (Or.inl y)) (fun y => z1 (Or.inr y))
      rw [v6, e32]
      refine ⟨(r'.now R0).1.1.1, w_Wr_makeBytes (c_wby5 (d := d + 1) (lo := 0) R0 (by omega) _ 0 s.1 (s.2.1.1 + 1, s.2.1.2) h' (Nat.zero_add _) r' fun h'' ro => ?_)⟩
      exact kk' _ (by rw [eU z, if_neg z1]) h'' (fun y => vals0 ns (ro.1 y)) ro.2
  rw [if_neg (fun z => c1 (t114.mp z))]
  by_cases c2 : tG S k 0 = 122
  · rw [if_pos (t122.mpr c2)]
    have ns : ¬ sz (tG S k 0) = true := by rw [c2]; decide
    have eU : s.2.1.1 < n → UWr V n S k s.1 s.2.1 = if V s.2.1.1 < 0 ∨ 20 < V s.2.1.1 then (2, s.1, s.2.1, 0) else wth 0 (end0 (pwd V n 1 (V s.2.1.1).toInt.toNat s.1 (s.2.1.1 + 1, s.2.1.2))) := fun z => by
      unfold UWr
      rw [if_pos z, if_neg c1, if_pos c2]
    refine w_Wr_passWords ⟨R2.1.1, c_wtake (d := d + 3) R0 r2 (fun z => ?_) (fun z z1 h' re => ?_) fun z z1 h' r' v6 => ?_⟩
    · rw [if_neg (by decide), if_neg (by decide)]; exact end1 z
    · rw [if_neg (by decide), if_neg (by decide)]
      exact kk' _ (by rw [eU z, if_pos z1]) h' (fun y => absurd y (show ¬ (2 : Int32) = 0 by decide)) re
    · rw [if_pos rfl]
      have v6 : hL h' x0 6 = V s.2.1.1 := v6
      have z1 : ¬ (V s.2.1.1 < 0 ∨ 20 < V s.2.1.1) := z1
      obtain ⟨e32, le⟩ := jv_i32' (N := 20) (by decide) (fun y => z1 (Or.inl y)) (fun y => z1 (Or.inr y))
      rw [v6, e32]
      have eU := eU z
      rw [if_neg z1] at eU
      refine ⟨(r'.now R0).1.1.1, w_Wr_makeBytes (c_wby5 (d := d + 1) (lo := 1) R0 (by omega) _ 0 s.1 (s.2.1.1 + 1, s.2.1.2) h' (Nat.zero_add _) r' fun h'' ro => ?_)⟩
      have eU : UWr V n S k s.1 s.2.1 = wth 0 (end0 (pwd V n (1 : Int32).toInt64 (V s.2.1.1).toInt.toNat s.1 (s.2.1.1 + 1, s.2.1.2))) := eU
      generalize pwd V n (1 : Int32).toInt64 (V s.2.1.1).toInt.toNat s.1 (s.2.1.1 + 1, s.2.1.2) = o at eU ro ⊢
      unfold end0 at eU
      by_cases y : o.1 = 0
      · rw [if_pos y] at eU ⊢
        have r3 := ro.1 y
        refine ⟨(r3.now R0).1.1.1, c_wmake (d := d + 3) R0 r3 (fun q h3 re => ?_) fun q h3 r4 _ => ?_⟩
        · have q : ¬ bfN o.2.1 < 120 := q
          exact kk' (2, o.2.1, o.2.2, 0) (by rw [eU]; unfold pby; rw [if_neg q]; rfl) h3 (fun y => absurd y (show ¬ (2 : Int32) = 0 by decide)) re
        · have q : bfN o.2.1 < 120 := q
          have re := RcW.re R0 r4
          rw [show (0 : Int32) &&& 255 = 0 from rfl] at r4
          exact kk' (wth 0 (0, o.2.1 + 8, o.2.2.1, upW o.2.2.2 (bfN o.2.1) 0)) (by rw [eU]; unfold pby; rw [if_pos q]; rfl) h3 (fun y => vals0 ns r4) re
      · rw [if_neg y] at eU ⊢
        exact kk' _ eU h'' (fun q => absurd q y) ro.2
  rw [if_neg (fun z => c2 (t122.mp z))]
  obtain ⟨w1, w2, w3⟩ := wd_num (T.2.2.1 k hk).1 hu c0 c1 c2
  have eU : s.2.1.1 < n → UWr V n S k s.1 s.2.1 = if V s.2.1.1 < loT S k ∨ hiT S k < V s.2.1.1 then (2, s.1, s.2.1, 0) else wth (V s.2.1.1) (pby (byV (V s.2.1.1) (wdN S k) (decide (tG S k 0 = 118))) (wdN S k) 0 s.1 (s.2.1.1 + 1, s.2.1.2)) := fun z => by
    unfold UWr
    rw [if_pos z, if_neg c1, if_neg c2, if_neg c0]
  have bad : ∀ (x : Int32) (h' : Hp), ¬ x = 0 → Wr0 x0 b n V S h' → K x h' → Wp (d + 5) m_Wr_passNumber 8 [some (.ref x0), some (.ref (b + 2 + k)), some (.int x), some (.int 0), none] [] h' (QI K) := fun x h' hx0 R' k2 => by
    refine w_Wr_passNumber_8 ⟨CpT.s2 R'.2.1.2.1 R'.2.1.1 hk, ?_⟩
    by_cases q : 0 < hI h' (b + 2 + k) 1
    · rw [if_pos q, if_neg hx0]; exact k2
    · rw [if_neg q]; exact k2
  refine w_Wr_passNumber ⟨R2.1.1, c_wtakeFor (d := d + 2) R0 hk r2 (fun z => bad 1 h2 (by decide) R2 (end1 z)) (fun z z1 h' re => bad 2 h' (by decide) (ReW.now R0 re) (kk' _ (by rw [eU z, if_pos z1]) h' (fun y => absurd y (show ¬ (2 : Int32) = 0 by decide)) re)) fun z z1 h' r' v6 => ?_⟩
  refine c_wnum8 (d := d + 3) R0 hk w3 w1 (wdN S k) 0 s.1 _ h' none (Nat.zero_add _) r' v6 fun h'' ro => ?_
  exact kk' _ (by rw [eU z, if_neg z1]) h'' ro.1 ro.2
end WRE
