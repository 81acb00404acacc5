theorem sgn_255 (x : Int32) : Sgn (x &&& 255) := by
  refine ⟨(x &&& 255).toBitVec.toNat, ?_, ?_⟩
  · rw [Int32.toBitVec_and, BitVec.toNat_and]
    have : (Int32.toBitVec 255).toNat = 255 := rfl
    rw [this]
    have := @Nat.and_le_right x.toBitVec.toNat 255
    omega
  · rw [← Int32.toBitVec_inj]
    show _ = BitVec.ofNat 32 _
    rw [BitVec.ofNat_toNat, BitVec.setWidth_eq]
theorem sgn_tx (h : Hp) (n i : Nat) : Sgn (tx h n i) := by
  unfold tx
  by_cases c : i < n
  · rw [if_pos c]; exact sgn_255 _
  · rw [if_neg c]; exact ⟨0, by decide, rfl⟩
theorem ends_tx {h : Hp} {n : Nat} (hn : n ≤ 90) : Ends (tx h n) n := ⟨hn, fun k hk => by unfold tx; rw [if_neg (by omega)]⟩
theorem iv_mul (a b : Nat) : iv a * iv b = iv (a * b) := (Int32.ofNat_mul a b).symm
theorem di_num : ∀ e, e < 256 → di (iv e) = true → 48 ≤ e ∧ e ≤ 57 := by decide +kernel
theorem dig_num {c : Int32} (hc : Sgn c) (h : di c = true) : ∃ e, e ≤ 9 ∧ c - 48 = iv e := by
  obtain ⟨e, he, rfl⟩ := hc
  obtain ⟨h1, h2⟩ := di_num e he h
  exact ⟨e - 48, by omega, iv_sub (b := 48) h1⟩
theorem di_dg {t : Nat → Int32} {i : Nat} : di (t i) = true ↔ dg t i := by
  unfold di dg
  rw [Bool.and_eq_true, Bool.not_eq_true', Bool.not_eq_true', decide_eq_false_iff_not, decide_eq_false_iff_not]
theorem fg_num {t : Nat → Int32} {i : Nat} (hs : ∀ j, Sgn (t j)) : ∀ m, m ≤ 3 → (∀ j, j < m → di (t (i + j)) = true) → ∃ v, v < 10 ^ m ∧ fg t i m = iv v ∧ (1 ≤ m → fgv t i m = iv v)
  | 0, _, _ => ⟨0, by decide, rfl, fun h => absurd h (by decide)⟩
  | m + 1, hm3, hd => by
    obtain ⟨v, h1, h2, h3⟩ := fg_num hs m (by omega) fun j hj => hd j (by omega)
    obtain ⟨e, he, hc⟩ := dig_num (hs (i + m)) (hd m (Nat.lt_succ_self _))
    refine ⟨v * 10 + e, by rw [Nat.pow_succ]; omega, ?_, fun _ => ?_⟩
    · show fg t i m * 10 + t (i + m) - 48 = _
      rw [Int32.sub_eq_add_neg, Int32.add_assoc, ← Int32.sub_eq_add_neg, hc, h2, show (10 : Int32) = iv 10 from rfl, iv_mul, iv_add]
    · show (if fgv t i m < 0 then 0 else fgv t i m) * 10 + (t (i + m) - 48) = _
      rw [hc]
      by_cases m0 : m = 0
      · subst m0
        have : v = 0 := by have : v < 1 := h1; omega
        subst this
        rw [if_pos (show fgv t i 0 < 0 from (by decide : (-1 : Int32) < 0)), show (0 : Int32) * 10 = iv 0 from rfl, iv_add, Nat.zero_mul]
      · rw [h3 (by omega)]
        have : 10 ^ m ≤ 10 ^ 3 := Nat.pow_le_pow_right (by decide) (by omega)
        have : (10 : Nat) ^ 3 = 1000 := rfl
        rw [if_neg (iv_neg (by omega)), show (10 : Int32) = iv 10 from rfl, iv_mul, iv_add]
/-- the figure, as the descent has it -/
theorem fig_nd {h : Hp} {n i m : Nat} (hm : m ≤ 3) (hd : ∀ j, j < m → dg (tx h n) (i + j)) (he : m = 3 ∨ ¬ dg (tx h n) (i + m)) : m = nd (tx h n) i ∧ (m = 0 → fgv (tx h n) i m = -1) ∧ (¬ m = 0 → fgv (tx h n) i m = fg (tx h n) i m ∧ ¬ fg (tx h n) i m < 0) := by
  have hd' : ∀ j, j < m → di (tx h n (i + j)) = true := fun j hj => di_dg.mpr (hd j hj)
  refine ⟨?_, fun e => by rw [e]; rfl, fun e => ?_⟩
  · have hn : ∀ k, ¬ dg (tx h n) k → di (tx h n k) = false := fun k q => by
      cases c : di (tx h n k) with
      | false => rfl
      | true => exact absurd (di_dg.mp c) q
    unfold nd
    match m, hm, hd', he with
    | 0, _, _, he =>
      have := hn _ (he.resolve_left (by decide))
      rw [Nat.add_zero] at this
      rw [if_pos this]
    | 1, _, hd', he =>
      have a0 := hd' 0 (by decide)
      have a1 := hn _ (he.resolve_left (by decide))
      rw [Nat.add_zero] at a0
      rw [a0, a1]; rfl
    | 2, _, hd', he =>
      have a0 := hd' 0 (by decide)
      have a1 := hd' 1 (by decide)
      have a2 := hn _ (he.resolve_left (by decide))
      rw [Nat.add_zero] at a0
      rw [a0, a1, a2]; rfl
    | 3, _, hd', he =>
      have a0 := hd' 0 (by decide)
      have a1 := hd' 1 (by decide)
      have a2 := hd' 2 (by decide)
      rw [Nat.add_zero] at a0
      rw [a0, a1, a2]; rfl
    | m + 4, hm, _, _ => omega
  · obtain ⟨v, h1, h2, h3⟩ := fg_num (sgn_tx h n) m hm hd'
    have : 10 ^ m ≤ 10 ^ 3 := Nat.pow_le_pow_right (by decide) (by omega)
    have : (10 : Nat) ^ 3 = 1000 := rfl
    rw [h2, h3 (by omega)]
    exact ⟨rfl, iv_neg (by omega)⟩
