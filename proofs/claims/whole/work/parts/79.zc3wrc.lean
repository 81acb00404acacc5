/-! the class writes so: units -/
section WRD
variable {d x0 b n : Nat} {V : Nat → Int64} {S : Tb} {h0 h h' : Hp} {s : Ps Wo} {k : Nat} {c : (Nat → Option Int64) × Int32 × Int32}
def RoW (x0 b n : Nat) (S : Tb) (h0 : Hp) (c : (Nat → Option Int64) × Int32 × Int32) (o : Int32 × Nat × Wo) (h : Hp) : Prop := (o.1 = 0 → RcW x0 b n S h0 (o.2.1, o.2.2, c) h) ∧ ReW x0 b h0 c.2.1 c.2.2 h
theorem RoW.of {B : Nat} {w : Wo} (R0 : Wr0 x0 b n V S h0) (r : RcW x0 b n S h0 (B, w, c) h) : RoW x0 b n S h0 c ((0 : Int32), B, w) h := ⟨fun _ => r, RcW.re (s := (B, w, c)) R0 r⟩
theorem RoW.bad {o : Int32 × Nat × Wo} (e : ReW x0 b h0 c.2.1 c.2.2 h) (ho : ¬ o.1 = 0) : RoW x0 b n S h0 c o h := ⟨fun z => absurd z ho, e⟩
/-- a bit more -/
theorem c_wbit {K : Int32 → Hp → Prop} {x : Int32} (hx1 : x = 0 ∨ x = 1) {B : Nat} {w : Wo} (R0 : Wr0 x0 b n V S h0) (r : RcW x0 b n S h0 (B, w, c) h) (k2 : (B % 8 = 0 ∧ ¬ bfN B < 120) → ∀ h', ReW x0 b h0 c.2.1 c.2.2 h' → K 2 h') (k0 : ¬ (B % 8 = 0 ∧ ¬ bfN B < 120) → ∀ h', RcW x0 b n S h0 (B + 1, (w.1, oneB x B w.2), c) h' → hL h' = hL h → K 0 h') : Ca (d + 1) m_Wr_makeBit [.ref x0, .int x] h (QI K) := by
  obtain ⟨R, Bt⟩ := r.now R0
  have hx := R.1.2.2.2
  have Bt : Byt h 9 10 (bfN B) 120 := Bt
  have re := RcW.re (s := (B, w, c)) R0 r
  obtain ⟨a1, a2, ⟨a3, a4⟩, ⟨a5, a6⟩, ⟨a7, a8, a9⟩, a10⟩ := id r
  have a2 : hI h x0 0 = iv B := a2
  have a7 : hI h 9 1 = iv (bfN B) := a7
  have a8 : bfN B ≤ 120 := a8
  have a9 : ∀ i, i < bfN B → hI h 10 i &&& 255 = w.2 i := a9
  refine w_Wr_makeBit ⟨R.1.1, ?_⟩
  rw [a2, iv_mod8 (by unfold bfN at a8; omega), R.1.2.2.1]
  have z8 : iv (B % 8) = (0 : Int32) ↔ B % 8 = 0 := iv_inj (a := B % 8) (b := 0) (by omega) (by omega)
  by_cases q : B % 8 = 0
  · rw [if_pos (z8.mpr q)]
    have e8 : bfN B = B / 8 := by unfold bfN; omega
    refine ⟨Bt.1, c_By_append Bt 0 (fun z => ?_) fun z => ?_⟩
    · rw [if_pos rfl]; exact k2 ⟨q, by omega⟩ h re
    · rw [if_neg (by decide)]
      have f : WrF x0 b h (sI (sI h 10 (bfN B) (0 : Int32).toInt8.toInt32) 9 1 (iv (bfN B + 1))) := WrF.r.trans WrF.m
      have l9 : hI (sI (sI h 10 (bfN B) (0 : Int32).toInt8.toInt32) 9 1 (iv (bfN B + 1))) 9 1 = iv (bfN B + 1) := hI_s
      have R' := R.fr f ⟨_, Bt.frW f l9 (by omega)⟩
      refine c_wbit23 (c := c) hx1 R' (a1.trans f) ?_ ⟨?_, ?_⟩ ⟨?_, a6⟩ (by rw [l9, e8]) (by omega) (fun i hi => ?_) ?_ a10 fun h' r' e' => k0 (fun z' => z'.2 z) h' r' (by rw [e']; rfl)
      · rw [hI_ne (by omega), hI_ne (by omega)]; exact a2
      · rw [hI_ne (by omega), hI_ne (by omega)]; exact a3
      · rw [hI_ne (by omega), hI_ne (by omega)]; exact a4
      · rw [hI_ne (by omega), hI_ne (by omega)]; exact a5
      · rw [hI_ne (by decide), hI_o (by omega)]; exact a9 i (by omega)
      · rw [hI_ne (by decide), ← e8, hI_s, if_pos q]; rfl
  · rw [if_neg (fun z => q (z8.mp z))]
    have e8 : bfN B = B / 8 + 1 := by unfold bfN; omega
    refine c_wbit23 (c := c) hx1 R a1 a2 ⟨a3, a4⟩ ⟨a5, a6⟩ (by rw [a7, e8]) (by omega) (fun i hi => a9 i (by omega)) ?_ a10 fun h' r' e' => k0 (fun z' => q z'.1) h' r' e'
    rw [if_neg q]; exact a9 _ (by omega)
/-- the bytes of a number -/
theorem c_wnum8 {K : Int32 → Hp → Prop} {v : Int64} {wd : Nat} (R0 : Wr0 x0 b n V S h0) (hk : k < S.1) (hw : wd ≤ 8) (ew : wdT S k = iv wd) : ∀ (m j B : Nat) (w : Wo) (h : Hp) (y4 : Option Value), j + m = wd → RcW x0 b n S h0 (B, w, c) h → hL h x0 6 = v → (∀ h', RoW x0 b n S h0 c (pby (byV v wd (decide (tG S k 0 = 118))) m j B w) h' → K (pby (byV v wd (decide (tG S k 0 = 118))) m j B w).1 h') → Wp (d + 2) m_Wr_passNumber 8 [some (.ref x0), some (.ref (b + 2 + k)), some (.int 0), some (.int (iv j)), y4] [] h (QI K) := by
  intro m
  induction m with
  | zero =>
    intro j B w h y4 e r hv kk
    have R := (r.now R0).1
    refine w_Wr_passNumber_8 ⟨CpT.s2 R.2.1.2.1 R.2.1.1 hk, ?_⟩
    rw [show hI h (b + 2 + k) 1 = iv wd by rw [(R.2.1.1.1.2.2.1 k hk).1]; exact ew, if_neg (fun z => by have := (iv_lt (by omega) (by omega)).mp z; omega)]
    exact kk h (RoW.of R0 r)
  | succ m ih =>
    intro j B w h y4 e r hv kk
    have R := (r.now R0).1
    have s2 := CpT.s2 R.2.1.2.1 R.2.1.1 hk
    have e1 : ∀ h, Wr0 x0 b n V S h → hI h (b + 2 + k) 1 = iv wd := fun h R => by rw [(R.2.1.1.1.2.2.1 k hk).1]; exact ew
    have e0 : hI h (b + 2 + k) 0 = tG S k 0 := (R.2.1.1.1.2.1 k hk).1
    refine w_Wr_passNumber_8 ⟨s2, ?_⟩
    rw [e1 h R, if_pos ((iv_lt (by omega) (by omega)).mpr (by omega)), if_pos rfl, e0, hv]
    -- a byte made
    have mk : ∀ (i : Nat), i < 8 → i = (if decide (tG S k 0 = 118) = true then j else wd - 1 - j) → ∀ y, Ca (d + 1) m_Wr_make [.ref x0, .int (bx v i)] h (QI fun v11 h12 => ∀ v14 : Int32, v14 = iv j + 1 → Wp (d + 2) m_Wr_passNumber 8 [some (.ref x0), some (.ref (b + 2 + k)), some (.int v11), some (.int v14), y] [] h12 (QI K)) := by
      intro i hi ei y
      unfold pby at kk
      refine c_wmake R0 r (fun z h' re => ?_) fun z h' r' el => ?_
      · have z : ¬ bfN B < 120 := z
        rw [if_neg z] at kk
        rw [iv1, iv_add]
        rintro _ rfl
        have R' := ReW.now R0 re
        refine w_Wr_passNumber_8 ⟨CpT.s2 R'.2.1.2.1 R'.2.1.1 hk, ?_⟩
        have k2 := kk h' (RoW.bad re (show ¬ (2 : Int32) = 0 by decide))
        rw [e1 h' R']
        by_cases q : iv (j + 1) < iv wd
        · rw [if_pos q, if_neg (by decide)]; exact k2
        · rw [if_neg q]; exact k2
      · have z : bfN B < 120 := z
        rw [if_pos z] at kk
        rw [iv1, iv_add]
        rintro _ rfl
        rw [bx_255] at r'
        have eb : bx v i = byV v wd (decide (tG S k 0 = 118)) j := by unfold byV; rw [ei]
        rw [eb] at r'
        exact ih (j + 1) (B + 8) _ h' y (by omega) r' (by rw [el]; exact hv) kk
    have b8 : ∀ i : Nat, (8 : Int32) * iv i = iv (8 * i) := fun i => by rw [show (8 : Int32) = iv 8 from rfl, iv_mul]
    by_cases q : tG S k 0 = 118
    · rw [if_pos q, b8]
      refine ⟨R.1.1, w_Ff_byteOf ?_⟩
      rw [byte_eq v j (by omega)]
      exact ⟨R.1.1, mk j (by omega) (by rw [decide_eq_true q, if_pos rfl]) _⟩
    · rw [if_neg q]
      rintro _ rfl
      rw [iv1, iv_sub (by omega), iv_sub (by omega), b8]
      refine ⟨R.1.1, w_Ff_byteOf ?_⟩
      rw [byte_eq v (wd - 1 - j) (by omega)]
      exact ⟨R.1.1, mk (wd - 1 - j) (by omega) (by rw [decide_eq_false q, if_neg (by decide)]) _⟩
/-- the bits of a number -/
theorem and_1 (y : Int32) : y &&& 1 = 0 ∨ y &&& 1 = 1 := by
  have e : (y &&& 1).toBitVec.toNat = y.toBitVec.toNat % 2 := by
    rw [Int32.toBitVec_and, BitVec.toNat_and]
    show _ &&& 1 = _
    exact Nat.and_one_is_mod _
  rcases Nat.mod_two_eq_zero_or_one y.toBitVec.toNat with q | q
  · left; rw [q] at e; rw [← Int32.toBitVec_inj]; exact BitVec.eq_of_toNat_eq e
  · right; rw [q] at e; rw [← Int32.toBitVec_inj]; exact BitVec.eq_of_toNat_eq e
theorem c_wbit13 {K : Int32 → Hp → Prop} {v : Int64} (R0 : Wr0 x0 b n V S h0) : ∀ (m B : Nat) (w : Wo) (h : Hp) (y1 : Option Value), m < 9 → RcW x0 b n S h0 (B, w, c) h → hL h x0 6 = v → (∀ h', RoW x0 b n S h0 c (pbt v m B w) h' → K (pbt v m B w).1 h') → Wp (d + 2) m_Wr_passBits 13 [some (.ref x0), y1, some (.int 0), some (.int (dwn m))] [] h (QI K)
  | 0, B, w, h, y1, hm, r, hv, kk => by
    refine w_Wr_passBits_13 ?_
    rw [if_pos dwn_0]
    exact kk h (RoW.of R0 r)
  | m + 1, B, w, h, y1, hm, r, hv, kk => by
    have R := (r.now R0).1
    refine w_Wr_passBits_13 ?_
    rw [dwn_s (by omega), if_neg (iv_neg (by omega)), if_pos rfl, hv]
    unfold pbt at kk
    refine ⟨R.1.1, c_wbit (x := btV v m) (and_1 _) R0 r (fun z h' re => ?_) fun z h' r' el => ?_⟩
    · rw [if_pos z] at kk
      intro v11 _
      have k2 := kk h' (RoW.bad re (show ¬ (2 : Int32) = 0 by decide))
      refine w_Wr_passBits_13 ?_
      by_cases q : v11 < 0
      · rw [if_pos q]; exact k2
      · rw [if_neg q, if_neg (by decide)]; exact k2
    · rw [if_neg z] at kk
      rintro _ rfl
      exact c_wbit13 R0 m (B + 1) _ h' _ (by omega) r' (by rw [el]; exact hv) kk
/-- bytes that are values -/
theorem c_wby5 {K : Int32 → Hp → Prop} {lo : Int32} {M : Nat} (R0 : Wr0 x0 b n V S h0) (hM : M < 1000) : ∀ (m j B : Nat) (w : Wo) (h : Hp), j + m = M → RcW x0 b n S h0 (B, w, c) h → (∀ h', RoW x0 b n S h0 c (pwd V n lo.toInt64 m B w) h' → K (pwd V n lo.toInt64 m B w).1 h') → Wp (d + 3) m_Wr_makeBytes 5 [some (.ref x0), some (.int (iv M)), some (.int lo), some (.int 0), some (.int (iv j))] [] h (QI K)
  | 0, j, B, w, h, e, r, kk => by
    refine w_Wr_makeBytes_5 ?_
    rw [if_neg (fun z => by have := (iv_lt (by omega) (by omega)).mp z; omega)]
    exact kk h (RoW.of R0 r)
  | m + 1, j, B, w, h, e, r, kk => by
    have R := (r.now R0).1
    have out : ∀ (x : Int32) (h' : Hp), ¬ x = 0 → K x h' → Wp (d + 3) m_Wr_makeBytes 5 [some (.ref x0), some (.int (iv M)), some (.int lo), some (.int x), some (.int (iv (j + 1)))] [] h' (QI K) := fun x h' hx k2 => by
      refine w_Wr_makeBytes_5 ?_
      by_cases q : iv (j + 1) < iv M
      · rw [if_pos q, if_neg hx]; exact k2
      · rw [if_neg q]; exact k2
    refine w_Wr_makeBytes_5 ?_
    rw [if_pos ((iv_lt (by omega) (by omega)).mpr (by omega)), if_pos rfl, iv1, iv_add]
    unfold pwd at kk
    refine ⟨R.1.1, c_wtake R0 r (fun z => ?_) (fun z z1 h' re => ?_) fun z z1 h' r' v6 => ?_⟩
    · have z : ¬ w.1 < n := z
      rw [if_neg z] at kk
      rw [if_neg (by decide)]
      rintro _ rfl
      exact out 1 h (by decide) (kk h (RoW.bad (RcW.re (s := (B, w, c)) R0 r) (show ¬ (1 : Int32) = 0 by decide)))
    · have z : w.1 < n := z
      have z1 : V w.1 < lo.toInt64 ∨ 255 < V w.1 := z1
      rw [if_pos z, if_pos z1] at kk
      rw [if_neg (by decide)]
      rintro _ rfl
      exact out 2 h' (by decide) (kk h' (RoW.bad re (show ¬ (2 : Int32) = 0 by decide)))
    · have z : w.1 < n := z
      have z1 : ¬ (V w.1 < lo.toInt64 ∨ 255 < V w.1) := z1
      rw [if_pos z, if_neg z1] at kk
      rw [if_pos rfl]
      have v6 : hL h' x0 6 = V w.1 := v6
      have r' : RcW x0 b n S h0 (B, (w.1 + 1, w.2), c) h' := r'
      rw [v6]
      refine ⟨(r'.now R0).1.1.1, c_wmake R0 r' (fun y h'' re => ?_) fun y h'' r'' _ => ?_⟩
      · have y : ¬ bfN B < 120 := y
        rw [if_neg y] at kk
        rintro _ rfl
        exact out 2 h'' (by decide) (kk h'' (RoW.bad re (show ¬ (2 : Int32) = 0 by decide)))
      · have y : bfN B < 120 := y
        rw [if_pos y] at kk
        rintro _ rfl
        exact c_wby5 R0 hM m (j + 1) (B + 8) _ h'' (by omega) r'' kk
/-- the next value, for a node -/
theorem c_wtakeFor {K : Int32 → Hp → Prop} {B : Nat} {w : Wo} {f : Nat → Option Int64} {p m : Int32} (R0 : Wr0 x0 b n V S h0) (hk : k < S.1) (r : RcW x0 b n S h0 (B, w, f, p, m) h) (k1 : ¬ w.1 < n → K 1 h) (k2 : w.1 < n → (V w.1 < loT S k ∨ hiT S k < V w.1) → ∀ h', ReW x0 b h0 p m h' → K 2 h') (k0 : w.1 < n → ¬ (V w.1 < loT S k ∨ hiT S k < V w.1) → ∀ h', RcW x0 b n S h0 (B, (w.1 + 1, w.2), (fun q => if q = k ∧ sz (tG S k 0) = true then some (V w.1) else f q), p, m) h' → hL h' x0 6 = V w.1 → K 0 h') : Ca (d + 2) m_Wr_takeFor [.ref x0, .ref (b + 2 + k)] h (QI K) := by
  have R := (r.now R0).1
  have u90 := R.2.1.1.1.1.2
  have b2 := R.2.1.2.2.2
  have hx := R.1.2.2.2
  have s2 : ∀ h, Wr0 x0 b n V S h → (hS h (b + 2 + k)).1 = 2 := fun h R => CpT.s2 R.2.1.2.1 R.2.1.1 hk
  have fx := (R.2.1.1.1.2.2.1 k hk).2.2
  refine w_Wr_takeFor ⟨s2 h R, R.1.1, ?_⟩
  rw [fx.1, fx.2]
  refine c_wtake R0 r (fun z => ?_) (fun z z1 h' re => ?_) fun z z1 h' r' v6 => ?_
  · rw [if_neg (by decide)]; exact k1 z
  · rw [if_neg (by decide)]; exact k2 z z1 h' re
  · rw [if_pos rfl]
    have v6 : hL h' x0 6 = V w.1 := v6
    have r' : RcW x0 b n S h0 (B, (w.1 + 1, w.2), f, p, m) h' := r'
    have R' := (r'.now R0).1
    refine ⟨R'.1.1, s2 h' R', ?_⟩
    rw [v6]
    rintro _ rfl
    refine k0 z z1 _ ?_ (by rw [hL_o (by omega)]; exact v6)
    obtain ⟨a1, a2, a3, a5, a7, a10⟩ := r'
    refine ⟨a1.trans (WrF.nd (by omega)), a2, a3, a5, a7, fun q v hq => ?_⟩
    have hq : (if q = k ∧ sz (tG S k 0) = true then some (V w.1) else f q) = some v := hq
    by_cases c : q = k
    · subst c
      by_cases y : sz (tG S q 0) = true
      · rw [if_pos ⟨rfl, y⟩] at hq
        exact ⟨⟨hk, y⟩, by rw [hL_s]; exact Option.some.inj hq⟩
      · rw [if_neg (fun z => y z.2)] at hq
        exact absurd (a10 q v hq).1.2 y
    · rw [if_neg (fun z => c z.1)] at hq
      exact ⟨(a10 q v hq).1, by rw [hL_o (by omega)]; exact (a10 q v hq).2⟩
end WRD
