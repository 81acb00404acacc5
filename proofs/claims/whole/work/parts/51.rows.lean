/-! Bytes and Longs -/
/-- a row of n bytes at a, its array r of cap places -/
def Byt (h : Hp) (a r n cap : Nat) : Prop := (hS h a).1 = 0 ∧ hR h a 0 = r ∧ hS h r = (22, cap) ∧ ¬ r = 1 ∧ hI h a 1 = iv n ∧ n ≤ cap ∧ cap < 2000 ∧ ¬ r = a
def Lng (h : Hp) (a r n cap : Nat) : Prop := (hS h a).1 = 1 ∧ hR h a 0 = r ∧ hS h r = (21, cap) ∧ ¬ r = 1 ∧ hI h a 1 = iv n ∧ n ≤ cap ∧ cap < 2000 ∧ ¬ r = a
theorem ofn (n : Nat) : Int32.ofNat n = iv n := rfl
theorem n31 {n : Nat} (h : n < 100000) : n < 2 ^ 31 := by omega
section ROWS
variable {d : Nat} {h : Hp} {a r n cap : Nat}
theorem c_By_at {K : Int32 → Hp → Prop} (B : Byt h a r n cap) {i : Nat} (hi : i < 2 ^ 31) (k : K (if i < n then hI h r i &&& 255 else 0) h) : Ca d m_By_at [.ref a, .int (iv i)] h (QI K) := by
  obtain ⟨b1, b2, b3, b4, b5, b6, b7, b8⟩ := B
  refine w_By_at ?_
  rw [if_neg (iv_neg hi)]
  refine ⟨b1, ?_⟩
  rw [b5, b2, b3]
  by_cases c : i < n
  · rw [if_pos c] at k
    rw [if_pos ((iv_lt hi (by omega)).mpr c)]
    refine ⟨rfl, ainr_iv hi (by omega), ?_⟩
    rw [iv_clamp hi]; exact k
  · rw [if_neg c] at k
    rw [if_neg (fun e => c ((iv_lt hi (by omega)).mp e))]; exact k
theorem c_By_append {K : Int32 → Hp → Prop} (B : Byt h a r n cap) (x : Int32) (k0 : n = cap → K 0 h) (k1 : n < cap → K 1 (sI (sI h r n x.toInt8.toInt32) a 1 (iv (n + 1)))) : Ca d m_By_append [.ref a, .int x] h (QI K) := by
  obtain ⟨b1, b2, b3, b4, b5, b6, b7, b8⟩ := B
  refine w_By_append ⟨b1, ?_⟩
  rw [b2, b3, b5]
  refine ⟨rfl, ?_⟩
  rw [ofn]
  by_cases c : n < cap
  · rw [if_pos ((iv_lt (by omega) (by omega)).mpr c)]
    refine ⟨rfl, b4, ainr_iv (by omega) c, ?_⟩
    rintro _ rfl _ rfl
    have := k1 c
    rw [hI_sI, if_neg (fun e => b8 e.1.symm), b5, iv1, iv_add, iv_clamp (by omega), Int8.toInt8_toInt32]
    exact this
  · rw [if_neg (fun e => c ((iv_lt (by omega) (by omega)).mp e))]
    exact k0 (by omega)
theorem c_By_hasRoomFor {K : Int32 → Hp → Prop} (B : Byt h a r n cap) {m : Nat} (hm : m < 2 ^ 31) (k : K (if n + m ≤ cap then 1 else 0) h) : Ca d m_By_hasRoomFor [.ref a, .int (iv m)] h (QI K) := by
  obtain ⟨b1, b2, b3, b4, b5, b6, b7, b8⟩ := B
  refine w_By_hasRoomFor ⟨b1, ?_⟩
  rw [b2, b3, b5]
  refine ⟨rfl, ?_⟩
  rw [ofn, iv_sub b6]
  by_cases c : n + m ≤ cap
  · rw [if_pos c] at k
    rw [if_neg (fun e => by have := (iv_lt (by omega) hm).mp e; omega)]; exact k
  · rw [if_neg c] at k
    rw [if_pos ((iv_lt (by omega) hm).mpr (by omega))]; exact k
theorem c_By_markInLast {K : Hp → Prop} (B : Byt h a r n cap) (x : Int32) (k0 : n = 0 → K h) (k1 : 0 < n → K (sI h r (n - 1) ((hI h r (n - 1) ||| x).toInt8.toInt32))) : Ca d m_By_markInLast [.ref a, .int x] h (QV K) := by
  obtain ⟨b1, b2, b3, b4, b5, b6, b7, b8⟩ := B
  refine w_By_markInLast ⟨b1, ?_⟩
  rw [b2, b3, b5]
  by_cases c : 0 < n
  · rw [iv0, if_pos ((iv_lt (by omega) (by omega)).mpr c), iv1, iv_sub c, iv_clamp (by omega), Int8.toInt8_toInt32]
    refine ⟨rfl, ainr_iv (by omega) (by omega), b4, ?_⟩
    rintro _ rfl
    exact k1 c
  · rw [iv0, if_neg (fun e => c ((iv_lt (by omega) (by omega)).mp e))]
    exact k0 (by omega)
theorem c_By_shortenTo {K : Hp → Prop} (B : Byt h a r n cap) {m : Nat} (hm : m ≤ n) (k : K (sI h a 1 (iv m))) (k0 : m = n → K h) : Ca d m_By_shortenTo [.ref a, .int (iv m)] h (QV K) := by
  obtain ⟨b1, b2, b3, b4, b5, b6, b7, b8⟩ := B
  refine w_By_shortenTo ?_
  rw [if_neg (iv_neg (by omega))]
  refine ⟨b1, ?_⟩
  rw [b5]
  by_cases c : m < n
  · rw [if_pos ((iv_lt (by omega) (by omega)).mpr c)]
    rintro _ rfl; exact k
  · rw [if_neg (fun e => c ((iv_lt (by omega) (by omega)).mp e))]
    exact k0 (by omega)
theorem c_By_forgetAll {K : Hp → Prop} (B : Byt h a r n cap) (k : K (sI h a 1 (iv 0))) : Ca d m_By_forgetAll [.ref a] h (QV K) := by
  refine w_By_forgetAll ⟨B.1, ?_⟩
  rintro _ rfl; exact k
theorem c_By_becomeLike {K : Hp → Prop} {a' r' n' : Nat} (B : Byt h a r n cap) (B' : Byt h a' r' n' cap) (ha : ¬ a' = a) (k : K (cI (sI h a 1 (iv n')) r' 0 r 0 n')) : Ca d m_By_becomeLike [.ref a, .ref a'] h (QV K) := by
  obtain ⟨b1, b2, b3, b4, b5, b6, b7, b8⟩ := B
  obtain ⟨c1, c2, c3, c4, c5, c6, c7, c8⟩ := B'
  refine w_By_becomeLike ⟨c1, b1, by rw [b2, b3]; rfl, ?_⟩
  rintro _ rfl
  have e0 : (if Int32.ofNat (hS h (hR h a 0)).2 < hI h a' 1 then Int32.ofNat (hS h (hR h a 0)).2 else hI h a' 1) = iv n' := by
    rw [b2, b3, c5, ofn, if_neg (fun e => by have := (iv_lt (by omega) (by omega)).mp e; omega)]
  rw [e0, hI_sI, if_pos ⟨rfl, rfl⟩, hR_sI, b2, c2, b3, c3]
  refine ⟨⟨iv_neg (by omega), by decide, by decide⟩, ⟨c4, b4⟩, rfl, rfl, ?_, ?_⟩
  · rw [iv0, iv_clamp (by omega), iv_clamp (by omega)]; exact ⟨by omega, by omega⟩
  · rintro _ rfl
    rw [iv0, iv_clamp (by omega), iv_clamp (by omega)]; exact k
theorem c_Lo_at {K : Int64 → Hp → Prop} (B : Lng h a r n cap) {i : Nat} (hi : i < 2 ^ 31) (k : K (if i < n then hL h r i else 0) h) : Ca d m_Lo_at [.ref a, .int (iv i)] h (QL K) := by
  obtain ⟨b1, b2, b3, b4, b5, b6, b7, b8⟩ := B
  refine w_Lo_at ?_
  rw [if_neg (iv_neg hi)]
  refine ⟨b1, ?_⟩
  rw [b5, b2, b3]
  by_cases c : i < n
  · rw [if_pos c] at k
    rw [if_pos ((iv_lt hi (by omega)).mpr c)]
    refine ⟨rfl, ainr_iv hi (by omega), ?_⟩
    rw [iv_clamp hi]; exact k
  · rw [if_neg c] at k
    rw [if_neg (fun e => c ((iv_lt hi (by omega)).mp e))]; exact k
theorem c_Lo_append {K : Int32 → Hp → Prop} (B : Lng h a r n cap) (x : Int64) (k0 : n = cap → K 0 h) (k1 : n < cap → K 1 (sI (sL h r n x) a 1 (iv (n + 1)))) : Ca d m_Lo_append [.ref a, .long x] h (QI K) := by
  obtain ⟨b1, b2, b3, b4, b5, b6, b7, b8⟩ := B
  refine w_Lo_append ⟨b1, ?_⟩
  rw [b2, b3, b5]
  refine ⟨rfl, ?_⟩
  rw [ofn]
  by_cases c : n < cap
  · rw [if_pos ((iv_lt (by omega) (by omega)).mpr c)]
    refine ⟨rfl, b4, ainr_iv (by omega) c, ?_⟩
    rintro _ rfl _ rfl
    have := k1 c
    rw [hI_sL, b5, iv1, iv_add, iv_clamp (by omega)]
    exact this
  · rw [if_neg (fun e => c ((iv_lt (by omega) (by omega)).mp e))]
    exact k0 (by omega)
theorem c_Lo_replace {K : Hp → Prop} (B : Lng h a r n cap) {i : Nat} (hi : i < n) (x : Int64) (k : K (sL h r i x)) : Ca d m_Lo_replace [.ref a, .int (iv i), .long x] h (QV K) := by
  obtain ⟨b1, b2, b3, b4, b5, b6, b7, b8⟩ := B
  refine w_Lo_replace ?_
  rw [if_neg (iv_neg (by omega))]
  refine ⟨b1, ?_⟩
  rw [b5, b2, b3, if_pos ((iv_lt (by omega) (by omega)).mpr hi), iv_clamp (by omega)]
  refine ⟨rfl, b4, ainr_iv (by omega) (by omega), ?_⟩
  rintro _ rfl; exact k
theorem c_Lo_takeOut {K : Hp → Prop} (B : Lng h a r n cap) {i m : Nat} (him : i + m ≤ n) (k : K (sI (cL h r (i + m) r i (n - i - m)) a 1 (iv (n - m)))) : Ca d m_Lo_takeOut [.ref a, .int (iv i), .int (iv m)] h (QV K) := by
  obtain ⟨b1, b2, b3, b4, b5, b6, b7, b8⟩ := B
  refine w_Lo_takeOut ?_
  rw [if_neg (iv_neg (by omega)), if_neg (iv_neg (by omega))]
  refine ⟨b1, ?_⟩
  rw [b5, b2, b3, iv_sub (by omega : i ≤ n), iv_sub (by omega : m ≤ n - i), iv_add, iv_clamp (by omega), iv_clamp (by omega), iv_clamp (by omega)]
  rw [if_neg (fun e => by have := (iv_lt (by omega) (by omega)).mp e; omega), if_neg (fun e => by have := (iv_lt (by omega) (by omega)).mp e; omega)]
  refine ⟨⟨iv_neg (by omega), iv_neg (by omega), iv_neg (by omega)⟩, ⟨b4, b4⟩, rfl, ⟨by omega, by omega⟩, ?_⟩
  rintro _ rfl _ rfl
  rw [hI_cL, b5, iv_sub (by omega : m ≤ n)]; exact k
theorem c_Lo_forgetAll {K : Hp → Prop} (B : Lng h a r n cap) (k : K (sI h a 1 (iv 0))) : Ca d m_Lo_forgetAll [.ref a] h (QV K) := by
  refine w_Lo_forgetAll ⟨B.1, ?_⟩
  rintro _ rfl; exact k
theorem c_Lo_becomeLike {K : Hp → Prop} {a' r' n' : Nat} (B : Lng h a r n cap) (B' : Lng h a' r' n' cap) (ha : ¬ a' = a) (k : K (cL (sI h a 1 (iv n')) r' 0 r 0 n')) : Ca d m_Lo_becomeLike [.ref a, .ref a'] h (QV K) := by
  obtain ⟨b1, b2, b3, b4, b5, b6, b7, b8⟩ := B
  obtain ⟨c1, c2, c3, c4, c5, c6, c7, c8⟩ := B'
  refine w_Lo_becomeLike ⟨c1, b1, by rw [b2, b3]; rfl, ?_⟩
  rintro _ rfl
  have e0 : (if Int32.ofNat (hS h (hR h a 0)).2 < hI h a' 1 then Int32.ofNat (hS h (hR h a 0)).2 else hI h a' 1) = iv n' := by
    rw [b2, b3, c5, ofn, if_neg (fun e => by have := (iv_lt (by omega) (by omega)).mp e; omega)]
  rw [e0, hI_sI, if_pos ⟨rfl, rfl⟩, hR_sI, b2, c2, b3, c3]
  refine ⟨⟨iv_neg (by omega), by decide, by decide⟩, ⟨c4, b4⟩, rfl, rfl, ?_, ?_⟩
  · rw [iv0, iv_clamp (by omega), iv_clamp (by omega)]; exact ⟨by omega, by omega⟩
  · rintro _ rfl
    rw [iv0, iv_clamp (by omega), iv_clamp (by omega)]; exact k
end ROWS
