/-! the descent and the signs agree -/
def WfP (S : Tb) : Prop := ∀ k, k < S.1 → S.2.2 k ≤ k
theorem WfP.tB {S : Tb} {c own cs inh : Int32} {par : Nat} (W : WfP S) (hp : par ≤ S.1) : WfP (tB S c own cs inh par) := by
  intro k hk
  show (if k = S.1 then par else S.2.2 k) ≤ k
  by_cases e : k = S.1
  · rw [if_pos e]; omega
  · rw [if_neg e]; exact W k (by have : k < S.1 + 1 := hk; omega)
/-- how the signs from place i on come out, told by a descent's result -/
def Okk (b : Nat) (t : Nat → Int32) (N i : Nat) (X : Cf) (st : List Fm) : Rp → Prop
  | (j, none) => run t (N - i) i X = (j, none) ∧ j ≤ N
  | (j, some S') => b ≤ j ∧ j ≤ N ∧ WfP S' ∧ run t (N - i) i X = run t (N - j) j (S', fin S' st)
theorem Okk.ite {b : Nat} {t : Nat → Int32} {N i : Nat} {X : Cf} {st : List Fm} {c : Prop} [Decidable c] {o o' : Rp} (h1 : c → Okk b t N i X st o) (h2 : ¬ c → Okk b t N i X st o') : Okk b t N i X st (if c then o else o') := by
  by_cases h : c
  · rw [if_pos h]; exact h1 h
  · rw [if_neg h]; exact h2 h
theorem Okk.pre {b b' : Nat} {t : Nat → Int32} {N i i' : Nat} {X X' : Cf} {st : List Fm} {o : Rp} (e : run t (N - i) i X = run t (N - i') i' X') (h : Okk b' t N i' X' st o) (hb : b ≤ b') : Okk b t N i X st o := by
  match o, h with
  | (j, none), h => exact ⟨e.trans h.1, h.2⟩
  | (j, some S'), h => exact ⟨by have := h.1; omega, h.2.1, h.2.2.1, e.trans h.2.2.2⟩
/-- the text ends at N -/
def Ends (t : Nat → Int32) (N : Nat) : Prop := N ≤ 90 ∧ ∀ k, N ≤ k → t k = 0
theorem Ends.lt {t : Nat → Int32} {N i : Nat} (E : Ends t N) (h : ¬ t i = 0) : i < N := by
  by_cases c : i < N
  · exact c
  · exact absurd (E.2 i (by omega)) h
theorem di0 : di 0 = false := by decide
theorem nm0 : nm 0 = false := by decide
theorem Ends.di {t : Nat → Int32} {N i : Nat} (E : Ends t N) (h : di (t i) = true) : i < N := E.lt fun q => by rw [q, di0] at h; cases h
theorem Ends.nm {t : Nat → Int32} {N i : Nat} (E : Ends t N) (h : nm (t i) = true) : i < N := E.lt fun q => by rw [q, nm0] at h; cases h
theorem bt {b : Bool} (h : ¬ b = false) : b = true := by cases b with | true => rfl | false => exact absurd rfl h
theorem nd_cases {t : Nat → Int32} {i : Nat} (h : ¬ nd t i = 0) : (di (t i) = true ∧ nd t i = 1 ∧ di (t (i + 1)) = false) ∨ (di (t i) = true ∧ nd t i = 2 ∧ di (t (i + 1)) = true ∧ di (t (i + 2)) = false) ∨ (di (t i) = true ∧ nd t i = 3 ∧ di (t (i + 1)) = true ∧ di (t (i + 2)) = true) := by
  unfold nd at h ⊢
  cases h0 : di (t i) with
  | false => rw [h0] at h; exact absurd rfl h
  | true => cases h1 : di (t (i + 1)) with
    | false => exact Or.inl ⟨rfl, by simp, rfl⟩
    | true => cases h2 : di (t (i + 2)) with
      | false => exact Or.inr (Or.inl ⟨rfl, by simp, rfl, rfl⟩)
      | true => exact Or.inr (Or.inr ⟨rfl, by simp, rfl, rfl⟩)
theorem nd_zero {t : Nat → Int32} {i : Nat} (h : nd t i = 0) : di (t i) = false := by
  cases c : di (t i) with
  | false => rfl
  | true =>
    unfold nd at h
    rw [c, if_neg (by decide)] at h
    split at h
    · cases h
    · split at h <;> cases h
theorem tF_tF {S : Tb} {n j : Nat} {v v' : Int32} : tF (tF S n j v) n j v' = tF S n j v' := by
  unfold tF up2
  congr 2
  funext b k
  dsimp only
  by_cases c : b = n ∧ k = j
  · rw [if_pos c, if_pos c]
  · rw [if_neg c, if_neg c, if_neg c]
theorem Bel.tF {S : Tb} {st : List Fm} (B : Bel S st) {n j : Nat} {v : Int32} (hj : 0 < j ∧ j < 5) : Bel (tF S n j v) st := B.kp (Kep.tF (m := 0) (Nat.zero_le _) hj)
theorem tG_k {S : Tb} {n j k : Nat} {v : Int32} (hj : 0 < j) : tG (tF S n j v) k 0 = tG S k 0 := by rw [tG_tF, if_neg (by omega)]
theorem tG_7 {S : Tb} {n j k : Nat} {v : Int32} (hj : j < 7) : tG (tF S n j v) k 7 = tG S k 7 := by rw [tG_tF, if_neg (by omega)]
section SIM2
variable {t : Nat → Int32} {N : Nat}
theorem dig_step {S : Tb} {n s dg i : Nat} {w : Int32} {st : List Fm} (E : Ends t N) (h0 : ¬ S.1 = 0) (hz : sz (tG S n 0) = true) (hs : s = 2 ∨ (s = 3 ∧ dg < 3)) (hd : di (t i) = true) :
    run t (N - i) i (S, (n, s, dg, w) :: st) = run t (N - (i + 1)) (i + 1) (tF S n 3 (tG S n 3 * 10 + t i - 48), (n, 3, dg + 1, w) :: st) := by
  refine run_go (E.di hd) ?_
  unfold sgn
  rw [if_neg h0]
  dsimp only
  rw [if_pos hz, if_neg (by omega), if_neg (by omega), if_pos ⟨hs, hd⟩]
theorem sim_lim {S : Tb} {n dg i : Nat} {w : Int32} {st : List Fm} (E : Ends t N) (h0 : ¬ S.1 = 0) (hz : sz (tG S n 0) = true) (B : Bel S st) (W : WfP S) (hi : i ≤ N) (h3 : tG S n 3 = 0) : Okk i t N i (S, (n, 1, dg, w) :: st) st (pLim t i n S) := by
  unfold pLim
  refine .ite (fun hc => ?_) fun hc => ⟨Nat.le_refl _, hi, W, lazy hi h0 hz B (Or.inl ⟨rfl, hc⟩)⟩
  have hl : i < N := E.lt fun q => by rw [q] at hc; revert hc; decide
  have e1 : run t (N - i) i (S, (n, 1, dg, w) :: st) = run t (N - (i + 1)) (i + 1) (tF S n 2 (t i), (n, 2, 0, w) :: st) := by
    refine run_go hl ?_
    unfold sgn
    rw [if_neg h0]
    dsimp only
    rw [if_pos hz, if_neg (by decide), if_pos ⟨rfl, hc⟩]
  have hz2 : sz (tG (tF S n 2 (t i)) n 0) = true := by rw [tG_k (by decide)]; exact hz
  have g3 : tG (tF S n 2 (t i)) n 3 = 0 := by rw [tG_tF, if_neg (by omega)]; exact h3
  refine .ite (fun hm => ?_) fun hm => ?_
  · refine ⟨e1.trans (run_no (by omega) ?_ ?_), by omega⟩
    · have := nd_zero hm
      unfold sgn
      rw [if_neg (show ¬ (tF S n 2 (t i)).1 = 0 from h0)]
      dsimp only
      rw [if_pos hz2, if_neg (by decide), if_neg (by simp), if_neg (fun q => by rw [this] at q; exact absurd q.2 (by decide)), if_pos rfl]
    · unfold whl; dsimp only; simp
  have B2 : Bel (tF S n 2 (t i)) st := B.tF (by decide)
  have W2 : ∀ v, WfP (tF (tF S n 2 (t i)) n 3 v) := fun v => W
  have s1 : ∀ (a : di (t (i + 1)) = true), run t (N - (i + 1)) (i + 1) (tF S n 2 (t i), (n, 2, 0, w) :: st) = run t (N - (i + 1 + 1)) (i + 1 + 1) (tF (tF S n 2 (t i)) n 3 (fg t (i + 1) 1), (n, 3, 1, w) :: st) := by
    intro a
    have := dig_step (w := w) (st := st) (dg := 0) E (S := tF S n 2 (t i)) (n := n) h0 hz2 (Or.inl rfl) a
    rw [g3] at this
    exact this
  have hz3 : ∀ v, sz (tG (tF (tF S n 2 (t i)) n 3 v) n 0) = true := fun v => by rw [tG_k (by decide)]; exact hz2
  have s2 : ∀ (m : Nat) (hm : m < 3) (a : di (t (i + 1 + m)) = true), run t (N - (i + 1 + m)) (i + 1 + m) (tF (tF S n 2 (t i)) n 3 (fg t (i + 1) m), (n, 3, m, w) :: st) = run t (N - (i + 1 + (m + 1))) (i + 1 + (m + 1)) (tF (tF S n 2 (t i)) n 3 (fg t (i + 1) (m + 1)), (n, 3, m + 1, w) :: st) := by
    intro m hm a
    have := dig_step (w := w) (st := st) (dg := m) E (S := tF (tF S n 2 (t i)) n 3 (fg t (i + 1) m)) (n := n) h0 (hz3 _) (Or.inr ⟨rfl, hm⟩) a
    rw [tF_tF, tG_tF, if_pos ⟨rfl, rfl⟩] at this
    exact this
  have fl : ∀ (m : Nat) (hn : i + 1 + m ≤ N) (a : 3 ≤ m ∨ di (t (i + 1 + m)) = false), run t (N - (i + 1 + m)) (i + 1 + m) (tF (tF S n 2 (t i)) n 3 (fg t (i + 1) m), (n, 3, m, w) :: st) = run t (N - (i + 1 + m)) (i + 1 + m) (tF (tF S n 2 (t i)) n 3 (fg t (i + 1) m), fin (tF (tF S n 2 (t i)) n 3 (fg t (i + 1) m)) st) :=
    fun m hn a => lazy hn h0 (hz3 _) (B2.tF (by decide)) (Or.inr ⟨rfl, a⟩)
  rcases nd_cases hm with ⟨a1, e, a2⟩ | ⟨a1, e, a2, a3⟩ | ⟨a1, e, a2, a3⟩
  · have := E.di a1
    rw [e]
    exact ⟨by omega, by omega, W2 _, e1.trans ((s1 a1).trans (fl 1 (by omega) (Or.inr a2)))⟩
  · have := E.di a2
    rw [e]
    exact ⟨by omega, by omega, W2 _, e1.trans ((s1 a1).trans ((s2 1 (by decide) a2).trans (fl 2 (by omega) (Or.inr a3))))⟩
  · have := E.di a3
    rw [e]
    exact ⟨by omega, by omega, W2 _, e1.trans ((s1 a1).trans ((s2 1 (by decide) a2).trans ((s2 2 (by decide) a3).trans (fl 3 (by omega) (Or.inl (Nat.le_refl _))))))⟩
theorem sim_sz {S : Tb} {n dg i : Nat} {w lim : Int32} {st : List Fm} (E : Ends t N) (h0 : ¬ S.1 = 0) (hz : sz (tG S n 0) = true) (hl : lim = if tG S n 0 = 112 then 7 else 4) (B : Bel S st) (W : WfP S) (hi : i ≤ N) (h3 : tG S n 3 = 0) : Okk i t N i (S, (n, 0, dg, w) :: st) st (pSz t lim i n S) := by
  unfold pSz
  refine .ite (fun hc => ⟨run_no hi ?_ ?_, hi⟩) fun hc => ?_
  · unfold sgn
    rw [if_neg h0]
    dsimp only
    rw [if_pos hz, if_pos rfl, ← hl, if_pos hc]
  · unfold whl; dsimp only; simp
  · have hN : i < N := E.lt fun q => hc (by rw [q]; exact Or.inl (by decide))
    refine .pre (i' := i + 1) (X' := (tF S n 1 (t i - 48), (n, 1, dg, w) :: st)) (run_go hN ?_) (sim_lim E h0 (by rw [tG_k (by decide)]; exact hz) (B.tF (by decide)) W hN (by rw [tG_tF, if_neg (by omega)]; exact h3)) (by omega)
    unfold sgn
    rw [if_neg h0]
    dsimp only
    rw [if_pos hz, if_pos rfl, ← hl, if_neg hc]
end SIM2
