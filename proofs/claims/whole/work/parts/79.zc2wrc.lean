/-! the class writes so -/
theorem byte_any (y : Int32) : (y.toInt8.toInt32 &&& 255) = (y &&& 255) := by
  apply Int32.toBitVec_inj.mp
  rw [Int32.toBitVec_and, Int32.toBitVec_and, Int8.toBitVec_toInt32, Int32.toBitVec_toInt8]
  apply BitVec.eq_of_getLsbD_eq
  intro i hi
  have e255 : (255#32).getLsbD i = decide (i < 8) := by
    rw [BitVec.getLsbD_ofNat, show (255 : Nat) = 2 ^ 8 - 1 from rfl, Nat.testBit_two_pow_sub_one]
    simp; omega
  have f255 : (Int32.toBitVec 255).getLsbD i = decide (i < 8) := e255
  rw [BitVec.getLsbD_and, BitVec.getLsbD_and, f255]
  by_cases c : i < 8
  · rw [BitVec.getLsbD_signExtend, BitVec.signExtend_eq_setWidth_of_le _ (by decide), BitVec.getLsbD_setWidth]
    simp [c, hi]
  · simp [c]
theorem bx_255 (v : Int64) (k : Nat) : bx v k &&& 255 = bx v k := by
  unfold bx; rw [Int32.and_assoc]; rfl
section WRC
variable {d x0 b n : Nat} {V : Nat → Int64} {S : Tb} {h0 h h' : Hp} {s : Ps Wo}
/-- what a writing may change -/
def WrF (x0 b : Nat) (h0 h : Hp) : Prop := (hR h = hR h0 ∧ hS h = hS h0 ∧ hN h = hN h0 ∧ hU h = hU h0 ∧ hD h = hD h0) ∧ (∀ a, ¬ a = x0 → ¬ a = 9 → ¬ a = 10 → hI h a = hI h0 a) ∧ (∀ j, ¬ j = 1 → hI h 9 j = hI h0 9 j) ∧ (∀ a, ¬ a = x0 → ¬ (b + 2 ≤ a ∧ a < b + 92) → hL h a = hL h0 a) ∧ (∀ a j, ¬ a = x0 → ¬ j = 15 → hL h a j = hL h0 a j)
theorem WrF.refl (x0 b : Nat) (h : Hp) : WrF x0 b h h := ⟨⟨rfl, rfl, rfl, rfl, rfl⟩, fun _ _ _ _ => rfl, fun _ _ => rfl, fun _ _ _ => rfl, fun _ _ _ _ => rfl⟩
theorem WrF.trans {h'' : Hp} (a : WrF x0 b h h') (c : WrF x0 b h' h'') : WrF x0 b h h'' := by
  obtain ⟨⟨a1, a2, a3, a4, a5⟩, a6, a7, a8, a9⟩ := a
  obtain ⟨⟨c1, c2, c3, c4, c5⟩, c6, c7, c8, c9⟩ := c
  exact ⟨⟨c1.trans a1, c2.trans a2, c3.trans a3, c4.trans a4, c5.trans a5⟩, fun x h1 h2 h3 => (c6 x h1 h2 h3).trans (a6 x h1 h2 h3), fun j hj => (c7 j hj).trans (a7 j hj), fun x h1 h2 => (c8 x h1 h2).trans (a8 x h1 h2), fun x j h1 h2 => (c9 x j h1 h2).trans (a9 x j h1 h2)⟩
theorem WrF.x {j : Nat} {v : Int32} (hx : 231 ≤ x0) : WrF x0 b h (sI h x0 j v) := ⟨⟨rfl, rfl, rfl, rfl, rfl⟩, fun a h1 _ _ => hI_ne h1, fun _ _ => hI_o (by omega), fun _ _ _ => rfl, fun _ _ _ _ => rfl⟩
theorem WrF.xl {j : Nat} {v : Int64} : WrF x0 b h (sL h x0 j v) := ⟨⟨rfl, rfl, rfl, rfl, rfl⟩, fun _ _ _ _ => rfl, fun _ _ => rfl, fun a h1 _ => hL_ne h1, fun a j h1 _ => hL_o (by omega)⟩
theorem WrF.m {v : Int32} : WrF x0 b h (sI h 9 1 v) := ⟨⟨rfl, rfl, rfl, rfl, rfl⟩, fun a _ h2 _ => hI_ne h2, fun j hj => hI_o (by omega), fun _ _ _ => rfl, fun _ _ _ _ => rfl⟩
theorem WrF.r {j : Nat} {v : Int32} : WrF x0 b h (sI h 10 j v) := ⟨⟨rfl, rfl, rfl, rfl, rfl⟩, fun a _ _ h2 => hI_ne h2, fun j hj => hI_o (by omega), fun _ _ _ => rfl, fun _ _ _ _ => rfl⟩
theorem WrF.nd {k : Nat} {v : Int64} (hk : k < 90) : WrF x0 b h (sL h (b + 2 + k) 15 v) := ⟨⟨rfl, rfl, rfl, rfl, rfl⟩, fun _ _ _ _ => rfl, fun _ _ => rfl, fun a _ h2 => hL_ne (by omega), fun a j _ h2 => hL_o (by omega)⟩
/-- where a writing begins -/
def Wr0 (x0 b n : Nat) (V : Nat → Int64) (S : Tb) (h : Hp) : Prop := ((hS h x0).1 = 6 ∧ hR h x0 3 = 7 ∧ hR h x0 4 = 9 ∧ 231 ≤ x0) ∧ (CpT h b S ∧ Fmt h b ∧ 13 ≤ b ∧ b + 92 ≤ 197) ∧ (Lng h 7 8 n 160 ∧ ∀ i, i < n → hL h 8 i = V i) ∧ (∃ m, Byt h 9 10 m 120)
def MdC (h : Hp) (B : Nat) (W : Nat → Int32) : Prop := hI h 9 1 = iv (bfN B) ∧ bfN B ≤ 120 ∧ ∀ i, i < bfN B → hI h 10 i &&& 255 = W i
def RcW (x0 b n : Nat) (S : Tb) (h0 : Hp) (s : Ps Wo) (h : Hp) : Prop := WrF x0 b h0 h ∧ hI h x0 0 = iv s.1 ∧ (hI h x0 1 = s.2.2.2.1 ∧ hI h x0 2 = s.2.2.2.2) ∧ (hI h x0 5 = iv s.2.1.1 ∧ s.2.1.1 ≤ n) ∧ MdC h s.1 s.2.1.2 ∧ (∀ q v, s.2.2.1 q = some v → (q < S.1 ∧ sz (tG S q 0) = true) ∧ hL h (b + 2 + q) 15 = v)
def ReW (x0 b : Nat) (h0 : Hp) (p m : Int32) (h : Hp) : Prop := WrF x0 b h0 h ∧ (hI h x0 1 = p ∧ hI h x0 2 = m) ∧ ∃ m, Byt h 9 10 m 120
theorem Wr0.fr (R : Wr0 x0 b n V S h) (f : WrF x0 b h h') (hw : ∃ m, Byt h' 9 10 m 120) : Wr0 x0 b n V S h' := by
  obtain ⟨⟨a1, a2, a3, a4⟩, ⟨c1, c2, c3, c4⟩, ⟨m1, m2⟩, -⟩ := R
  obtain ⟨⟨f1, f2, f3, f4, f5⟩, f6, f7, f8, f9⟩ := f
  refine ⟨⟨by rw [f2]; exact a1, by rw [f1]; exact a2, by rw [f1]; exact a3, a4⟩, ⟨c1.mono (by rw [f6 b (by omega) (by omega) (by omega)]) fun k hk => ⟨f6 _ (by omega) (by omega) (by omega), by rw [f1], fun j hj => f9 _ j (by omega) hj⟩, ?_, c3, c4⟩, ⟨?_, fun i hi => by rw [f8 8 (by omega) (by omega)]; exact m2 i hi⟩, hw⟩
  · unfold Fmt at c2 ⊢; rw [f1, f2]; exact c2
  · obtain ⟨q1, q2, q3, q4, q5, q6⟩ := m1
    exact ⟨by rw [f2]; exact q1, by rw [f1]; exact q2, by rw [f2]; exact q3, q4, by rw [f6 7 (by omega) (by decide) (by decide)]; exact q5, q6⟩
theorem Byt.frW {m m' : Nat} (B : Byt h 9 10 m 120) (f : WrF x0 b h h') (e : hI h' 9 1 = iv m') (hm : m' ≤ 120) : Byt h' 9 10 m' 120 := by
  obtain ⟨q1, q2, q3, q4, q5, q6, q7⟩ := B
  exact ⟨by rw [f.1.2.1]; exact q1, by rw [f.1.1]; exact q2, by rw [f.1.2.1]; exact q3, q4, e, hm, q7⟩
theorem RcW.now (R0 : Wr0 x0 b n V S h0) (r : RcW x0 b n S h0 s h) : Wr0 x0 b n V S h ∧ Byt h 9 10 (bfN s.1) 120 := by
  obtain ⟨m, B⟩ := R0.2.2.2
  have l := B.frW r.1 r.2.2.2.2.1.1 r.2.2.2.2.1.2.1
  exact ⟨R0.fr r.1 ⟨_, l⟩, l⟩
theorem RcW.re (R0 : Wr0 x0 b n V S h0) (r : RcW x0 b n S h0 s h) : ReW x0 b h0 s.2.2.2.1 s.2.2.2.2 h := ⟨r.1, r.2.2.1, ⟨_, (r.now R0).2⟩⟩
theorem ReW.now {p m : Int32} (R0 : Wr0 x0 b n V S h0) (r : ReW x0 b h0 p m h) : Wr0 x0 b n V S h := R0.fr r.1 r.2.2
theorem RcW.bse (R0 : Wr0 x0 b n V S h0) (r : RcW x0 b n S h0 s h) : Bse x0 b S s h := by
  obtain ⟨R, B⟩ := r.now R0
  have := r.2.2.2.2.1.2.1
  exact ⟨Or.inr R.1.1, ⟨R.2.1.1, R.2.1.2.1⟩, ⟨r.2.1, by unfold bfN at this; omega⟩, fun q v hq => ⟨(r.2.2.2.2.2 q v hq).1.1, (r.2.2.2.2.2 q v hq).2⟩⟩
/-- the next value -/
theorem c_wtake {K : Int32 → Hp → Prop} {lo hi : Int64} (R0 : Wr0 x0 b n V S h0) (r : RcW x0 b n S h0 s h) (k1 : ¬ s.2.1.1 < n → K 1 h) (k2 : s.2.1.1 < n → (V s.2.1.1 < lo ∨ hi < V s.2.1.1) → ∀ h', ReW x0 b h0 s.2.2.2.1 s.2.2.2.2 h' → K 2 h') (k0 : s.2.1.1 < n → ¬ (V s.2.1.1 < lo ∨ hi < V s.2.1.1) → ∀ h', RcW x0 b n S h0 (s.1, (s.2.1.1 + 1, s.2.1.2), s.2.2) h' → hL h' x0 6 = V s.2.1.1 → K 0 h') : Ca (d + 1) m_Wr_take [.ref x0, .long lo, .long hi] h (QI K) := by
  obtain ⟨R, B⟩ := r.now R0
  have hx := R.1.2.2.2
  have b1 := R.2.1.2.2.1
  have b2 := R.2.1.2.2.2
  have u90 := R.2.1.1.1.1.2
  have LN := R.2.2.1.1
  have n160 := LN.2.2.2.2.2.1
  have tn := r.2.2.2.1.2
  refine w_Wr_take ⟨R.1.1, ?_⟩
  rw [R.1.2.1, r.2.2.2.1.1, LN.2.2.2.2.1]
  refine ⟨LN.1, ?_⟩
  by_cases c : s.2.1.1 < n
  · rw [if_pos ((iv_lt (by omega) (by omega)).mpr c)]
    refine c_Lo_at LN (by omega) ?_
    rw [if_pos c, R.2.2.1.2 _ c]
    refine ⟨R.1.1, ?_⟩
    rintro _ rfl _ rfl
    have r' : RcW x0 b n S h0 (s.1, (s.2.1.1 + 1, s.2.1.2), s.2.2) (sI (sL h x0 6 (V s.2.1.1)) x0 5 (iv (s.2.1.1 + 1))) := by
      obtain ⟨a1, a2, ⟨a3, a4⟩, ⟨a5, a6⟩, ⟨a7, a8, a9⟩, a10⟩ := r
      refine ⟨(a1.trans WrF.xl).trans (WrF.x hx), by rw [hI_o (by omega)]; exact a2, ⟨by rw [hI_o (by omega)]; exact a3, by rw [hI_o (by omega)]; exact a4⟩, ⟨hI_s, c⟩, ⟨by rw [hI_ne (by omega)]; exact a7, a8, fun i hi => by rw [hI_ne (by omega)]; exact a9 i hi⟩, fun q v hq => ⟨(a10 q v hq).1, ?_⟩⟩
      rw [hL_sI, hL_o (by have := (a10 q v hq).1.1; omega)]; exact (a10 q v hq).2
    rw [show hI (sL h x0 6 (V s.2.1.1)) x0 5 = iv s.2.1.1 from r.2.2.2.1.1, iv1, iv_add, show hL (sI (sL h x0 6 (V s.2.1.1)) x0 5 (iv (s.2.1.1 + 1))) x0 6 = V s.2.1.1 by rw [hL_sI, hL_s]]
    have v6 : hL (sI (sL h x0 6 (V s.2.1.1)) x0 5 (iv (s.2.1.1 + 1))) x0 6 = V s.2.1.1 := by rw [hL_sI, hL_s]
    by_cases q : V s.2.1.1 < lo
    · rw [if_pos q]; exact k2 c (Or.inl q) _ (RcW.re (s := (s.1, (s.2.1.1 + 1, s.2.1.2), s.2.2)) R0 r')
    · rw [if_neg q]
      by_cases q' : hi < V s.2.1.1
      · rw [if_pos q']; exact k2 c (Or.inr q') _ (RcW.re (s := (s.1, (s.2.1.1 + 1, s.2.1.2), s.2.2)) R0 r')
      · rw [if_neg q']; exact k0 c (fun z => z.elim q q') _ r' v6
  · rw [if_neg (fun z => c ((iv_lt (by omega) (by omega)).mp z))]; exact k1 c
/-- a byte more -/
theorem c_wmake {K : Int32 → Hp → Prop} {x : Int32} (R0 : Wr0 x0 b n V S h0) (r : RcW x0 b n S h0 s h) (k2 : ¬ bfN s.1 < 120 → ∀ h', ReW x0 b h0 s.2.2.2.1 s.2.2.2.2 h' → K 2 h') (k0 : bfN s.1 < 120 → ∀ h', RcW x0 b n S h0 (s.1 + 8, (s.2.1.1, upW s.2.1.2 (bfN s.1) (x &&& 255)), s.2.2) h' → hL h' = hL h → K 0 h') : Ca (d + 1) m_Wr_make [.ref x0, .int x] h (QI K) := by
  obtain ⟨R, B⟩ := r.now R0
  have hx := R.1.2.2.2
  have l := r.2.2.2.2.1.2.1
  have B' : Byt (sI h x0 0 (iv (s.1 + 8))) 9 10 (bfN s.1) 120 := B.frW (x0 := x0) (b := b) (WrF.x hx) (by rw [hI_ne (by omega)]; exact r.2.2.2.2.1.1) l
  refine w_Wr_make ⟨R.1.1, ?_⟩
  rw [r.2.1, show (8 : Int32) = iv 8 from rfl, iv_add]
  rintro _ rfl
  rw [hR_sI, R.1.2.2.1]
  refine ⟨B.1, c_By_append B' x (fun z => ?_) fun z => ?_⟩
  · rw [if_pos rfl]
    refine k2 (by omega) _ ⟨r.1.trans (WrF.x hx), ⟨by rw [hI_o (by omega)]; exact r.2.2.1.1, by rw [hI_o (by omega)]; exact r.2.2.1.2⟩, ⟨_, B'⟩⟩
  · rw [if_neg (by decide)]
    have e8 : bfN (s.1 + 8) = bfN s.1 + 1 := by unfold bfN; omega
    refine k0 z _ ?_ rfl
    obtain ⟨a1, a2, ⟨a3, a4⟩, ⟨a5, a6⟩, ⟨a7, a8, a9⟩, a10⟩ := r
    refine ⟨((a1.trans (WrF.x hx)).trans WrF.r).trans WrF.m, ?_, ⟨?_, ?_⟩, ⟨?_, a6⟩, ⟨?_, ?_, fun i hi => ?_⟩, fun q v hq => a10 q v hq⟩
    · rw [hI_ne (by omega), hI_ne (by omega), hI_s]
    · rw [hI_ne (by omega), hI_ne (by omega), hI_o (by omega)]; exact a3
    · rw [hI_ne (by omega), hI_ne (by omega), hI_o (by omega)]; exact a4
    · rw [hI_ne (by omega), hI_ne (by omega), hI_o (by omega)]; exact a5
    · rw [hI_s]; show iv (bfN s.1 + 1) = iv (bfN (s.1 + 8)); rw [e8]
    · show bfN (s.1 + 8) ≤ 120; omega
    · have hi : i < bfN (s.1 + 8) := hi
      rw [hI_ne (by decide)]
      show _ = upW s.2.1.2 (bfN s.1) (x &&& 255) i
      unfold upW
      by_cases e : i = bfN s.1
      · rw [if_pos e, e, hI_s]; exact byte_any x
      · rw [if_neg e, hI_o (by omega), hI_ne (by omega)]; exact a9 i (by omega)
theorem msk_dec : ∀ r : Nat, r < 8 → ∀ x : Int32, x = 0 ∨ x = 1 → (x <<< ((7 - iv r) &&& 31)) &&& 255 = x <<< ((7 - iv r) &&& 31) := by
  have : ∀ r : Nat, r < 8 → ((0 : Int32) <<< ((7 - iv r) &&& 31)) &&& 255 = (0 : Int32) <<< ((7 - iv r) &&& 31) ∧ ((1 : Int32) <<< ((7 - iv r) &&& 31)) &&& 255 = (1 : Int32) <<< ((7 - iv r) &&& 31) := by decide +kernel
  intro r hr x hx
  rcases hx with rfl | rfl
  · exact (this r hr).1
  · exact (this r hr).2
/-- a bit more, the row being long enough -/
theorem c_wbit23 {K : Int32 → Hp → Prop} {x : Int32} (hx1 : x = 0 ∨ x = 1) {B : Nat} {c : (Nat → Option Int64) × Int32 × Int32} {t : Nat} {W : Nat → Int32} (R : Wr0 x0 b n V S h) (f : WrF x0 b h0 h) (eB : hI h x0 0 = iv B) (sp : hI h x0 1 = c.2.1 ∧ hI h x0 2 = c.2.2) (ht : hI h x0 5 = iv t ∧ t ≤ n) (l9 : hI h 9 1 = iv (B / 8 + 1)) (l120 : B / 8 + 1 ≤ 120) (hW : ∀ i, i < B / 8 → hI h 10 i &&& 255 = W i) (hy : hI h 10 (B / 8) &&& 255 = if B % 8 = 0 then 0 else W (B / 8)) (hv : ∀ q v, c.1 q = some v → (q < S.1 ∧ sz (tG S q 0) = true) ∧ hL h (b + 2 + q) 15 = v)
    (k0 : ∀ h', RcW x0 b n S h0 (B + 1, (t, oneB x B W), c) h' → hL h' = hL h → K 0 h') : Wp (d + 1) m_Wr_makeBit 23 [some (.ref x0), some (.int x)] [] h (QI K) := by
  obtain ⟨m, Bt⟩ := R.2.2.2
  have hx := R.1.2.2.2
  have Bn := Bt.frW (WrF.refl x0 b h) l9 l120
  refine w_Wr_makeBit_23 ⟨R.1.1, ?_⟩
  rw [R.1.2.2.1, eB, iv_mod8 (by omega)]
  refine ⟨Bn.1, c_By_markInLast Bn _ (fun z => by omega) fun z => ⟨R.1.1, ?_⟩⟩
  rw [Nat.add_sub_cancel, hI_ne (show ¬ x0 = 10 by omega), eB, iv1, iv_add]
  rintro _ rfl
  have e8 : bfN (B + 1) = B / 8 + 1 := by unfold bfN; omega
  refine k0 _ ⟨(f.trans WrF.r).trans (WrF.x hx), hI_s, ⟨?_, ?_⟩, ⟨?_, ht.2⟩, ⟨?_, ?_, fun i hi => ?_⟩, hv⟩ rfl
  · rw [hI_o (by omega), hI_ne (by omega)]; exact sp.1
  · rw [hI_o (by omega), hI_ne (by omega)]; exact sp.2
  · rw [hI_o (by omega), hI_ne (by omega)]; exact ht.1
  · rw [hI_ne (by omega), hI_ne (by omega), l9]
    show _ = iv (bfN (B + 1)); rw [e8]
  · show bfN (B + 1) ≤ 120; omega
  · have hi : i < bfN (B + 1) := hi
    rw [hI_ne (by omega)]
    show _ = oneB x B W i
    unfold oneB upW
    by_cases e : i = B / 8
    · rw [if_pos e, e, hI_s, byte_any, ← hy]
      have := msk_dec (B % 8) (by omega) x hx1
      rw [← this]
      apply Int32.toBitVec_inj.mp
      simp only [Int32.toBitVec_and, Int32.toBitVec_or]
      ext i hi
      simp only [BitVec.getElem_and, BitVec.getElem_or]
      cases (Int32.toBitVec (hI h 10 (B / 8)))[i] <;> cases (Int32.toBitVec (x <<< (7 - iv (B % 8) &&& 31)))[i] <;> cases (Int32.toBitVec 255)[i] <;> rfl
    · rw [if_neg e, hI_o (by omega)]; exact hW i (by omega)
end WRC
