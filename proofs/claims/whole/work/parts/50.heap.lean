/-! reading behind a store -/
theorem hI_sI (h : Hp) (a j : Nat) (v : Int32) (b k : Nat) : hI (sI h a j v) b k = if b = a ∧ k = j then v else hI h b k := rfl
theorem hL_sL (h : Hp) (a j : Nat) (v : Int64) (b k : Nat) : hL (sL h a j v) b k = if b = a ∧ k = j then v else hL h b k := rfl
theorem hR_sR (h : Hp) (a j : Nat) (v : Nat) (b k : Nat) : hR (sR h a j v) b k = if b = a ∧ k = j then v else hR h b k := rfl
theorem hD_sD (h : Hp) (a j : Nat) (v : UInt64) (b k : Nat) : hD (sD h a j v) b k = if b = a ∧ k = j then v else hD h b k := rfl
theorem hL_sI (h : Hp) (a j : Nat) (v : Int32) : hL (sI h a j v) = hL h := rfl
theorem hR_sI (h : Hp) (a j : Nat) (v : Int32) : hR (sI h a j v) = hR h := rfl
theorem hD_sI (h : Hp) (a j : Nat) (v : Int32) : hD (sI h a j v) = hD h := rfl
theorem hS_sI (h : Hp) (a j : Nat) (v : Int32) : hS (sI h a j v) = hS h := rfl
theorem hN_sI (h : Hp) (a j : Nat) (v : Int32) : hN (sI h a j v) = hN h := rfl
theorem hU_sI (h : Hp) (a j : Nat) (v : Int32) : hU (sI h a j v) = hU h := rfl
theorem hI_sL (h : Hp) (a j : Nat) (v : Int64) : hI (sL h a j v) = hI h := rfl
theorem hR_sL (h : Hp) (a j : Nat) (v : Int64) : hR (sL h a j v) = hR h := rfl
theorem hD_sL (h : Hp) (a j : Nat) (v : Int64) : hD (sL h a j v) = hD h := rfl
theorem hS_sL (h : Hp) (a j : Nat) (v : Int64) : hS (sL h a j v) = hS h := rfl
theorem hN_sL (h : Hp) (a j : Nat) (v : Int64) : hN (sL h a j v) = hN h := rfl
theorem hU_sL (h : Hp) (a j : Nat) (v : Int64) : hU (sL h a j v) = hU h := rfl
theorem hI_sR (h : Hp) (a j : Nat) (v : Nat) : hI (sR h a j v) = hI h := rfl
theorem hL_sR (h : Hp) (a j : Nat) (v : Nat) : hL (sR h a j v) = hL h := rfl
theorem hD_sR (h : Hp) (a j : Nat) (v : Nat) : hD (sR h a j v) = hD h := rfl
theorem hS_sR (h : Hp) (a j : Nat) (v : Nat) : hS (sR h a j v) = hS h := rfl
theorem hN_sR (h : Hp) (a j : Nat) (v : Nat) : hN (sR h a j v) = hN h := rfl
theorem hU_sR (h : Hp) (a j : Nat) (v : Nat) : hU (sR h a j v) = hU h := rfl
theorem hI_sD (h : Hp) (a j : Nat) (v : UInt64) : hI (sD h a j v) = hI h := rfl
theorem hL_sD (h : Hp) (a j : Nat) (v : UInt64) : hL (sD h a j v) = hL h := rfl
theorem hR_sD (h : Hp) (a j : Nat) (v : UInt64) : hR (sD h a j v) = hR h := rfl
theorem hS_sD (h : Hp) (a j : Nat) (v : UInt64) : hS (sD h a j v) = hS h := rfl
theorem hN_sD (h : Hp) (a j : Nat) (v : UInt64) : hN (sD h a j v) = hN h := rfl
theorem hU_sD (h : Hp) (a j : Nat) (v : UInt64) : hU (sD h a j v) = hU h := rfl
theorem hI_nw (h : Hp) (c l n : Nat) (b k : Nat) : hI (hNew h c l n) b k = if b = hN h then 0 else hI h b k := rfl
theorem hL_nw (h : Hp) (c l n : Nat) (b k : Nat) : hL (hNew h c l n) b k = if b = hN h then 0 else hL h b k := rfl
theorem hR_nw (h : Hp) (c l n : Nat) (b k : Nat) : hR (hNew h c l n) b k = if b = hN h then 0 else hR h b k := rfl
theorem hD_nw (h : Hp) (c l n : Nat) (b k : Nat) : hD (hNew h c l n) b k = if b = hN h then 0 else hD h b k := rfl
theorem hS_nw (h : Hp) (c l n : Nat) (b : Nat) : hS (hNew h c l n) b = if b = hN h then (c, l) else hS h b := rfl
theorem hN_nw (h : Hp) (c l n : Nat) : hN (hNew h c l n) = hN h + 1 := rfl
theorem hU_nw (h : Hp) (c l n : Nat) : hU (hNew h c l n) = hU h + n := rfl
theorem hI_cI (h : Hp) (a i b j n : Nat) (c k : Nat) : hI (cI h a i b j n) c k = if c = b ∧ j ≤ k ∧ k < j + n then hI h a (i + (k - j)) else hI h c k := rfl
theorem hL_cL (h : Hp) (a i b j n : Nat) (c k : Nat) : hL (cL h a i b j n) c k = if c = b ∧ j ≤ k ∧ k < j + n then hL h a (i + (k - j)) else hL h c k := rfl
theorem hL_cI (h : Hp) (a i b j n : Nat) : hL (cI h a i b j n) = hL h := rfl
theorem hR_cI (h : Hp) (a i b j n : Nat) : hR (cI h a i b j n) = hR h := rfl
theorem hD_cI (h : Hp) (a i b j n : Nat) : hD (cI h a i b j n) = hD h := rfl
theorem hS_cI (h : Hp) (a i b j n : Nat) : hS (cI h a i b j n) = hS h := rfl
theorem hN_cI (h : Hp) (a i b j n : Nat) : hN (cI h a i b j n) = hN h := rfl
theorem hU_cI (h : Hp) (a i b j n : Nat) : hU (cI h a i b j n) = hU h := rfl
theorem hI_cL (h : Hp) (a i b j n : Nat) : hI (cL h a i b j n) = hI h := rfl
theorem hR_cL (h : Hp) (a i b j n : Nat) : hR (cL h a i b j n) = hR h := rfl
theorem hD_cL (h : Hp) (a i b j n : Nat) : hD (cL h a i b j n) = hD h := rfl
theorem hS_cL (h : Hp) (a i b j n : Nat) : hS (cL h a i b j n) = hS h := rfl
theorem hN_cL (h : Hp) (a i b j n : Nat) : hN (cL h a i b j n) = hN h := rfl
theorem hU_cL (h : Hp) (a i b j n : Nat) : hU (cL h a i b j n) = hU h := rfl
/-! small numbers -/
/-- the number n as an int -/
def iv (n : Nat) : Int32 := Int32.ofNat n
theorem iv_toInt {n : Nat} (h : n < 2 ^ 31) : (iv n).toInt = n := Int32.toInt_ofNat_of_lt h
theorem iv_add (a b : Nat) : iv a + iv b = iv (a + b) := (Int32.ofNat_add a b).symm
theorem iv_clamp {n : Nat} (h : n < 2 ^ 31) : (iv n).toNatClampNeg = n := by
  unfold Int32.toNatClampNeg; rw [iv_toInt h]; rfl
theorem iv_lt {a b : Nat} (ha : a < 2 ^ 31) (hb : b < 2 ^ 31) : iv a < iv b ↔ a < b := by
  rw [Int32.lt_iff_toInt_lt, iv_toInt ha, iv_toInt hb]; omega
theorem iv_inj {a b : Nat} (ha : a < 2 ^ 31) (hb : b < 2 ^ 31) : iv a = iv b ↔ a = b := by
  rw [← Int32.toInt_inj, iv_toInt ha, iv_toInt hb]; omega
theorem iv_neg {a : Nat} (ha : a < 2 ^ 31) : ¬ iv a < 0 := by
  rw [Int32.lt_iff_toInt_lt, iv_toInt ha, Int32.toInt_zero]; omega
theorem iv_sub {a b : Nat} (h : b ≤ a) : iv a - iv b = iv (a - b) := by
  have : iv a = iv (a - b) + iv b := by rw [iv_add]; congr 1; omega
  rw [this, Int32.add_sub_cancel]
theorem iv_of {x : Int32} (h : ¬ x < 0) : ∃ n : Nat, n < 2 ^ 31 ∧ x = iv n := by
  rw [Int32.lt_iff_toInt_lt, Int32.toInt_zero] at h
  have := x.toInt_lt
  refine ⟨x.toInt.toNat, by omega, ?_⟩
  rw [← Int32.toInt_inj, iv_toInt (by omega)]
  omega
theorem ainr_iv {a n : Nat} (ha : a < 2 ^ 31) (h : a < n) : ainr (iv a) n = true := by
  unfold ainr
  rw [decide_eq_false (iv_neg ha), iv_clamp ha, decide_eq_false (by omega)]; rfl
theorem ainr_spec {x : Int32} {n : Nat} (h : ainr x n = true) : ∃ a : Nat, a < n ∧ a < 2 ^ 31 ∧ x = iv a := by
  unfold ainr at h
  simp only [Bool.not_eq_true', Bool.or_eq_false_iff, decide_eq_false_iff_not] at h
  obtain ⟨a, ha, rfl⟩ := iv_of h.1
  rw [iv_clamp ha] at h
  exact ⟨a, by omega, ha, rfl⟩
theorem iv0 : (0 : Int32) = iv 0 := rfl
theorem iv1 : (1 : Int32) = iv 1 := rfl
/-! two runs are one -/
theorem Wp.all {d : Nat} {m : Mr} {pc : Nat} {l : Lc} {st : List Value} {h : Hp} {α : Type} {A : α → Prop} {P : α → Rs → Hp → Prop} (g0 : α) (h0 : A g0) (k : ∀ g, A g → Wp d m pc l st h (P g)) : Wp d m pc l st h (fun r h' => ∀ g, A g → P g r h') := by
  obtain ⟨f, r, h1, e1, q1⟩ := k g0 h0
  refine ⟨f, r, h1, e1, fun g hg => ?_⟩
  obtain ⟨f', r', h2, e2, q2⟩ := k g hg
  have := ev_det e1 e2
  simp only [Prod.mk.injEq] at this
  obtain ⟨rfl, rfl⟩ := this
  exact q2
