/-! more of what a descent keeps: room, and whose the new nodes are -/
def UpR (n : Nat) (i : Nat) (S : Tb) (o : Rp) : Prop := ∀ j S', o = (j, some S') → (S.1 ≤ i → S'.1 ≤ j) ∧ ((∀ k, n < k → k < S.1 → n + 1 ≤ S.2.2 k) → ∀ k, n < k → k < S'.1 → n + 1 ≤ S'.2.2 k)
theorem UpR.none {n i j : Nat} {S : Tb} : UpR n i S (j, none) := fun _ _ e => by simp at e
theorem UpR.some {n i j : Nat} {S S' : Tb} (h1 : S.1 ≤ i → S'.1 ≤ j) (h2 : S'.1 = S.1) (h3 : S'.2.2 = S.2.2) : UpR n i S (j, some S') := fun _ _ e => by
  simp only [Prod.mk.injEq, Option.some.injEq] at e
  obtain ⟨rfl, rfl⟩ := e
  exact ⟨h1, fun q k a b => by rw [h3]; exact q k a (by omega)⟩
theorem UpR.ite {n i : Nat} {S : Tb} {c : Prop} [Decidable c] {a b : Rp} (h1 : c → UpR n i S a) (h2 : ¬ c → UpR n i S b) : UpR n i S (if c then a else b) := by
  by_cases h : c
  · rw [if_pos h]; exact h1 h
  · rw [if_neg h]; exact h2 h
/-- a descent's new nodes -/
def UpF (rec : Nat → Nat → Int32 → Int32 → Int32 → Tb → Rp) : Prop := ∀ i par own cs inh S j S', rec i par own cs inh S = (j, some S') → (S.1 ≤ i → S'.1 ≤ j) ∧ ∀ k, S.1 < k → k < S'.1 → S.1 + 1 ≤ S'.2.2 k
theorem up_lim {t : Nat → Int32} {i n m i' : Nat} {S S0 : Tb} (hi : i' ≤ i) (h0 : S0.1 = S.1) (h2 : S0.2.2 = S.2.2) : UpR m i' S (pLim t i n S0) := by
  unfold pLim
  exact .ite (fun _ => .ite (fun _ => .none) fun _ => .some (fun q => by show S0.1 ≤ _; omega) h0 h2) fun _ => .some (fun q => by omega) h0 h2
theorem up_sz {t : Nat → Int32} {lim : Int32} {i n m : Nat} {S : Tb} : UpR m i S (pSz t lim i n S) := by
  unfold pSz
  exact .ite (fun _ => .none) fun _ => up_lim (Nat.le_succ _) rfl rfl
theorem up_step {rec : Nat → Nat → Int32 → Int32 → Int32 → Tb → Rp} (hr : UpF rec) (hc : ChF rec) (hk : KpF rec) {n i' i j : Nat} {own cs inh : Int32} {S S0 S' : Tb} (hi : i' ≤ i) (hn : n < S.1) (h0 : S0.1 = S.1) (h2 : S0.2.2 = S.2.2) (e : rec i (n + 1) own cs inh S0 = (j, some S')) :
    (S.1 ≤ i' → S'.1 ≤ j) ∧ ((∀ k, n < k → k < S.1 → n + 1 ≤ S.2.2 k) → ∀ k, n < k → k < S'.1 → n + 1 ≤ S'.2.2 k) := by
  obtain ⟨a, b⟩ := hr _ _ _ _ _ _ _ _ e
  obtain ⟨c1, c2⟩ := hc _ _ _ _ _ _ _ _ e
  have K := hk _ _ _ _ _ _ _ _ e
  refine ⟨fun q => a (by omega), fun q k h1 h3 => ?_⟩
  by_cases x : k < S0.1
  · rw [(K.2.2 k x).1, h2]; exact q k h1 (by omega)
  · by_cases y : k = S0.1
    · rw [y, c2]; exact Nat.le_refl _
    · have := b k (by omega) h3; omega
theorem up_fields {t : Nat → Int32} {rec : Nat → Nat → Int32 → Int32 → Int32 → Tb → Rp} (hr : UpF rec) (hc : ChF rec) (hk : KpF rec) {R n : Nat} : ∀ (k i : Nat) (S : Tb), n < S.1 → UpR n i S (pFields t rec R n k i S)
  | 0, i, S, _ => .none
  | k + 1, i, S, hn => by
    unfold pFields
    refine .ite (fun _ => .some (fun q => by omega) rfl rfl) fun _ => .ite (fun _ => .none) fun _ => .ite (fun _ => .none) fun _ => ?_
    have q := fun j S' e => up_step hr hc hk (n := n) (i' := i) (i := i + 2) (j := j) (S := S) (S0 := S) (S' := S') (own := t i - 97) (cs := -1) (inh := t i - 97) (by omega) hn rfl rfl e
    have K := hk (i + 2) (n + 1) (t i - 97) (-1) (t i - 97) S
    split
    · exact .none
    · rename_i j S' e
      obtain ⟨q1, q2⟩ := q j S' e
      have K' := K j S' e
      refine .ite (fun _ => .none) fun _ => fun j2 S2 e2 => ?_
      obtain ⟨r1, r2⟩ := up_fields hr hc hk k (j + 1) S' (by have := K'.1; omega) j2 S2 e2
      exact ⟨fun h => r1 (by have := q1 h; omega), fun h => r2 (q2 h)⟩
theorem up_cases {t : Nat → Int32} {rec : Nat → Nat → Int32 → Int32 → Int32 → Tb → Rp} (hr : UpF rec) (hc : ChF rec) (hk : KpF rec) {n : Nat} {inh : Int32} : ∀ (k : Nat) (b : Bool) (i : Nat) (S : Tb), n < S.1 → UpR n i S (pCases t rec n inh k b i S)
  | 0, _, i, S, _ => .none
  | k + 1, b, i, S, hn => by
    unfold pCases
    refine .ite (fun _ => .some (fun q => by omega) rfl rfl) fun _ => .ite (fun _ => .none) fun _ => .ite (fun _ => .none) fun _ => ?_
    have q := fun j S' e => up_step hr hc hk (n := n) (i' := i) (i := i + nd t i + 1) (j := j) (S := S) (S0 := S) (S' := S') (own := -1) (cs := fg t i (nd t i)) (inh := inh) (by omega) hn rfl rfl e
    have K := hk (i + nd t i + 1) (n + 1) (-1) (fg t i (nd t i)) inh S
    split
    · exact .none
    · rename_i j S' e
      obtain ⟨q1, q2⟩ := q j S' e
      have K' := K j S' e
      refine .ite (fun _ => .none) fun _ => fun j2 S2 e2 => ?_
      obtain ⟨r1, r2⟩ := up_cases hr hc hk k false (j + 1) S' (by have := K'.1; omega) j2 S2 e2
      exact ⟨fun h => r1 (by have := q1 h; omega), fun h => r2 (q2 h)⟩
theorem up_tail {t : Nat → Int32} {rec : Nat → Nat → Int32 → Int32 → Int32 → Tb → Rp} (hr : UpF rec) (hc : ChF rec) (hk : KpF rec) {R n i : Nat} {c inh : Int32} {S : Tb} (hn : n < S.1) : UpR n i S (pTail t rec R c n inh i S) := by
  unfold pTail
  refine .ite (fun _ => .ite (fun _ => .none) fun _ => fun j S' e => up_step hr hc hk (i := i + 1) (S0 := tF S n 4 (t i - 97)) (Nat.le_succ _) hn rfl rfl e) fun _ => .ite (fun _ => .ite (fun _ => .none) fun _ => .ite (fun _ => .none) fun _ => fun j S' e => ?_)
    fun _ => .ite (fun _ => up_fields hr hc hk _ _ _ hn) fun _ => .ite (fun _ => up_sz) fun _ => .ite (fun _ => .some (fun q => q) rfl rfl) fun _ => up_sz
  obtain ⟨a, b⟩ := up_cases hr hc hk 90 true (i + 2) (tF S n 4 (t i - 97)) hn j S' e
  exact ⟨fun h => a (show S.1 ≤ _ by omega), b⟩
theorem up_T {t : Nat → Int32} : ∀ R, UpF (pT t R)
  | 0 => fun _ _ _ _ _ _ _ _ e => by cases e
  | R + 1 => fun i par own cs inh S j S' e => by
    unfold pT at e
    split at e
    · obtain ⟨a, b⟩ := up_tail (t := t) (up_T R) (ch_T R) (kp_T R) (R := R) (n := S.1) (i := i + 1) (c := t i) (inh := inh) (S := tB S (t i) own cs inh par) (Nat.lt_succ_self _) j S' e
      exact ⟨fun q => a (Nat.succ_le_succ q), b fun k h1 h2 => by have h2 : k < S.1 + 1 := h2; omega⟩
    · cases e
