/-! no node lies deeper than five levels -/
def lv (G : Nat → Nat) : Nat → Nat → Prop
  | 0, _ => False
  | f + 1, k => match G k with
    | 0 => True
    | p + 1 => lv G f p
theorem lv_s (G : Nat → Nat) (f k : Nat) : lv G (f + 1) k = (match G k with | 0 => True | p + 1 => lv G f p) := rfl
theorem lv_up {G : Nat → Nat} : ∀ f k, lv G f k → lv G (f + 1) k
  | 0, k, h => h.elim
  | f + 1, k, h => by
    rw [lv_s] at h ⊢
    cases e : G k with
    | zero => trivial
    | succ p => rw [e] at h; exact lv_up f p h
theorem lv_le {G : Nat → Nat} {f g k : Nat} (h : lv G f k) (l : f ≤ g) : lv G g k := by
  induction l with
  | refl => exact h
  | step _ ih => exact lv_up _ _ ih
theorem lv_mono {G G' : Nat → Nat} {m : Nat} (W : ∀ k, k < m → G k ≤ k) (e : ∀ k, k < m → G' k = G k) : ∀ f k, k < m → lv G f k → lv G' f k
  | 0, k, _, h => h
  | f + 1, k, hk, h => by
    rw [lv_s] at h ⊢
    rw [e k hk]
    cases q : G k with
    | zero => trivial
    | succ p =>
      rw [q] at h
      have := W k hk
      exact lv_mono W e f p (by omega) h
def LvA (S : Tb) : Prop := ∀ k, k < S.1 → lv S.2.2 5 k
section LV
variable {t : Nat → Int32}
def LvF (R : Nat) (rec : Nat → Nat → Int32 → Int32 → Int32 → Tb → Rp) : Prop := ∀ i par own cs inh S, WfP S → par ≤ S.1 → LvA S → (∀ p, par = p + 1 → lv S.2.2 (5 - R) p) → ∀ j S', rec i par own cs inh S = (j, some S') → LvA S'
theorem lv_sz {lim : Int32} {i n : Nat} {S : Tb} {j : Nat} {S' : Tb} (e : pSz t lim i n S = (j, some S')) : S'.1 = S.1 ∧ S'.2.2 = S.2.2 := by
  unfold pSz at e
  split at e
  · cases e
  · unfold pLim at e
    split at e
    · split at e
      · cases e
      · simp only [Prod.mk.injEq, Option.some.injEq] at e
        rw [← e.2]; exact ⟨rfl, rfl⟩
    · simp only [Prod.mk.injEq, Option.some.injEq] at e
      rw [← e.2]; exact ⟨rfl, rfl⟩
theorem LvA.of {S S' : Tb} (A : LvA S) (h : S'.1 = S.1 ∧ S'.2.2 = S.2.2) : LvA S' := by
  intro k hk
  rw [h.2]; exact A k (by rw [← h.1]; exact hk)
theorem lv_fields {R : Nat} (hr : LvF R (pT t R)) {n : Nat} : ∀ (k i : Nat) (S : Tb), WfP S → n < S.1 → LvA S → lv S.2.2 (5 - R) n → ∀ j S', pFields t (pT t R) R n k i S = (j, some S') → LvA S'
  | 0, i, S, _, _, _, _ => fun j S' e => by cases e
  | k + 1, i, S, W, hn, A, L => fun j S' e => by
    unfold pFields at e
    split at e
    · simp only [Prod.mk.injEq, Option.some.injEq] at e
      rw [← e.2]; exact A
    · split at e
      · cases e
      · split at e
        · cases e
        · have q := hr (i + 2) (n + 1) (t i - 97) (-1) (t i - 97) S W (by omega) A (fun p e => (show n = p by omega) ▸ L)
          have K := kp_T (t := t) R (i + 2) (n + 1) (t i - 97) (-1) (t i - 97) S
          have w := wf_T (t := t) R (i + 2) (n + 1) (t i - 97) (-1) (t i - 97) S W (by omega)
          split at e
          · cases e
          · rename_i j1 S1 e1
            have K' := K j1 S1 e1
            split at e
            · cases e
            · exact lv_fields hr k (j1 + 1) S1 (w j1 S1 e1) (by have := K'.1; omega) (q j1 S1 e1) (lv_mono (m := S.1) W (fun x hx => (K'.2.2 x hx).1) _ n hn L) j S' e
theorem lv_cases {R : Nat} (hr : LvF R (pT t R)) {n : Nat} {inh : Int32} : ∀ (k : Nat) (b : Bool) (i : Nat) (S : Tb), WfP S → n < S.1 → LvA S → lv S.2.2 (5 - R) n → ∀ j S', pCases t (pT t R) n inh k b i S = (j, some S') → LvA S'
  | 0, _, i, S, _, _, _, _ => fun j S' e => by cases e
  | k + 1, b, i, S, W, hn, A, L => fun j S' e => by
    unfold pCases at e
    split at e
    · simp only [Prod.mk.injEq, Option.some.injEq] at e
      rw [← e.2]; exact A
    · split at e
      · cases e
      · split at e
        · cases e
        · have q := hr (i + nd t i + 1) (n + 1) (-1) (fg t i (nd t i)) inh S W (by omega) A (fun p e => (show n = p by omega) ▸ L)
          have K := kp_T (t := t) R (i + nd t i + 1) (n + 1) (-1) (fg t i (nd t i)) inh S
          have w := wf_T (t := t) R (i + nd t i + 1) (n + 1) (-1) (fg t i (nd t i)) inh S W (by omega)
          split at e
          · cases e
          · rename_i j1 S1 e1
            have K' := K j1 S1 e1
            split at e
            · cases e
            · exact lv_cases hr k false (j1 + 1) S1 (w j1 S1 e1) (by have := K'.1; omega) (q j1 S1 e1) (lv_mono (m := S.1) W (fun x hx => (K'.2.2 x hx).1) _ n hn L) j S' e
theorem lv_T : ∀ R, R ≤ 5 → LvF R (pT t R)
  | 0, _ => fun _ _ _ _ _ _ _ _ _ _ _ _ e => by cases e
  | R + 1, hR => fun i par own cs inh S W hp A L j S' e => by
    have hr := lv_T R (by omega)
    unfold pT at e
    split at e
    · have W' : WfP (tB S (t i) own cs inh par) := W.tB hp
      have hn : S.1 < (tB S (t i) own cs inh par).1 := Nat.lt_succ_self _
      have m : ∀ f k, k < S.1 → lv S.2.2 f k → lv (tB S (t i) own cs inh par).2.2 f k := lv_mono (m := S.1) W fun x hx => by
        show (if x = S.1 then par else S.2.2 x) = _
        rw [if_neg (by omega)]
      have L' : lv (tB S (t i) own cs inh par).2.2 (5 - R) S.1 := by
        rw [show 5 - R = (5 - (R + 1)) + 1 by omega, lv_s, show (tB S (t i) own cs inh par).2.2 S.1 = par from if_pos rfl]
        cases ep : par with
        | zero => trivial
        | succ p =>
          have z := m _ p (by omega) (L p ep)
          rw [ep] at z; exact z
      have A' : LvA (tB S (t i) own cs inh par) := by
        intro k hk
        have hk : k < S.1 + 1 := hk
        by_cases q : k = S.1
        · rw [q]; exact lv_le L' (by omega)
        · exact m _ k (by omega) (A k (by omega))
      unfold pTail at e
      split at e
      · split at e
        · cases e
        · exact hr _ _ _ _ _ (tF (tB S (t i) own cs inh par) S.1 4 (t (i + 1) - 97)) W' (by show S.1 + 1 ≤ S.1 + 1; omega) A' (fun p ep => (show S.1 = p by omega) ▸ L') j S' e
      · split at e
        · split at e
          · cases e
          · split at e
            · cases e
            · exact lv_cases hr 90 true _ (tF (tB S (t i) own cs inh par) S.1 4 (t (i + 1) - 97)) W' hn A' L' j S' e
        · split at e
          · exact lv_fields hr 90 _ _ W' hn A' L' j S' e
          · split at e
            · exact A'.of (lv_sz e)
            · split at e
              · simp only [Prod.mk.injEq, Option.some.injEq] at e
                rw [← e.2]; exact A'
              · exact A'.of (lv_sz e)
    · cases e
theorem lv_top {F : Nat → Nat → Int32} {G : Nat → Nat} {j : Nat} {S : Tb} (e : pT t 5 0 0 (-1) (-1) (-1) (0, F, G) = (j, some S)) : LvA S := lv_T 5 (Nat.le_refl _) 0 0 (-1) (-1) (-1) (0, F, G) (fun k hk => absurd hk (Nat.not_lt_zero _)) (Nat.le_refl _) (fun k hk => absurd hk (Nat.not_lt_zero _)) (fun p q => (by cases q)) j S e
end LV
