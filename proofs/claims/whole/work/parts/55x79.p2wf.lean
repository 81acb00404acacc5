def WfR (S : Tb) (o : Rp) : Prop := ∀ j S', o = (j, some S') → WfP S'
def WfF (rec : Nat → Nat → Int32 → Int32 → Int32 → Tb → Rp) : Prop := ∀ i par own cs inh S, WfP S → par ≤ S.1 → WfR S (rec i par own cs inh S)
theorem WfR.none {j : Nat} {S : Tb} : WfR S (j, none) := fun _ _ e => by simp at e
theorem WfR.some {j : Nat} {S S' : Tb} (h : WfP S') : WfR S (j, some S') := fun _ _ e => by
  simp only [Prod.mk.injEq, Option.some.injEq] at e; rw [← e.2]; exact h
theorem WfR.ite {S : Tb} {c : Prop} [Decidable c] {a b : Rp} (h1 : c → WfR S a) (h2 : ¬ c → WfR S b) : WfR S (if c then a else b) := by
  by_cases h : c
  · rw [if_pos h]; exact h1 h
  · rw [if_neg h]; exact h2 h
theorem wf_lim {t : Nat → Int32} {i n : Nat} {S : Tb} (W : WfP S) : WfR S (pLim t i n S) := by
  unfold pLim
  exact .ite (fun _ => .ite (fun _ => .none) fun _ => .some W) fun _ => .some W
theorem wf_sz {t : Nat → Int32} {lim : Int32} {i n : Nat} {S : Tb} (W : WfP S) : WfR S (pSz t lim i n S) := by
  unfold pSz
  exact .ite (fun _ => .none) fun _ => wf_lim (S := tF S n 1 (t i - 48)) W
theorem wf_fields {t : Nat → Int32} {rec : Nat → Nat → Int32 → Int32 → Int32 → Tb → Rp} (hr : WfF rec) (hk : KpF rec) {R n : Nat} : ∀ (k i : Nat) (S : Tb), WfP S → n < S.1 → WfR S (pFields t rec R n k i S)
  | 0, i, S, _, _ => .none
  | k + 1, i, S, W, hn => by
    unfold pFields
    refine .ite (fun _ => .some W) fun _ => .ite (fun _ => .none) fun _ => .ite (fun _ => .none) fun _ => ?_
    have q := hr (i + 2) (n + 1) (t i - 97) (-1) (t i - 97) S W hn
    have K := hk (i + 2) (n + 1) (t i - 97) (-1) (t i - 97) S
    split
    · exact .none
    · rename_i j S' e
      exact .ite (fun _ => .none) fun _ => wf_fields hr hk k (j + 1) S' (q j S' e) (by have := (K j S' e).1; omega)
theorem wf_cases {t : Nat → Int32} {rec : Nat → Nat → Int32 → Int32 → Int32 → Tb → Rp} (hr : WfF rec) (hk : KpF rec) {n : Nat} {inh : Int32} : ∀ (k : Nat) (b : Bool) (i : Nat) (S : Tb), WfP S → n < S.1 → WfR S (pCases t rec n inh k b i S)
  | 0, _, i, S, _, _ => .none
  | k + 1, b, i, S, W, hn => by
    unfold pCases
    refine .ite (fun _ => .some W) fun _ => .ite (fun _ => .none) fun _ => .ite (fun _ => .none) fun _ => ?_
    have q := hr (i + nd t i + 1) (n + 1) (-1) (fg t i (nd t i)) inh S W hn
    have K := hk (i + nd t i + 1) (n + 1) (-1) (fg t i (nd t i)) inh S
    split
    · exact .none
    · rename_i j S' e
      exact .ite (fun _ => .none) fun _ => wf_cases hr hk k false (j + 1) S' (q j S' e) (by have := (K j S' e).1; omega)
theorem wf_T {t : Nat → Int32} : ∀ R, WfF (pT t R)
  | 0 => fun _ _ _ _ _ _ _ _ => .none
  | R + 1 => fun i par own cs inh S W hp => by
    unfold pT
    refine .ite (fun _ => ?_) fun _ => .none
    have W1 : WfP (tB S (t i) own cs inh par) := W.tB hp
    intro j S' e
    revert j S' e
    show WfR (tB S (t i) own cs inh par) _
    unfold pTail
    have hn : S.1 < (tB S (t i) own cs inh par).1 := Nat.lt_succ_self _
    exact .ite (fun _ => .ite (fun _ => .none) fun _ => wf_T R _ _ _ _ _ (tF (tB S (t i) own cs inh par) S.1 4 (t (i + 1) - 97)) W1 hn) fun _ => .ite (fun _ => .ite (fun _ => .none) fun _ => .ite (fun _ => .none) fun _ => wf_cases (wf_T R) (kp_T R) _ _ _ (tF (tB S (t i) own cs inh par) S.1 4 (t (i + 1) - 97)) W1 hn)
      fun _ => .ite (fun _ => wf_fields (wf_T R) (kp_T R) _ _ _ W1 hn) fun _ => .ite (fun _ => wf_sz W1) fun _ => .ite (fun _ => .some W1) fun _ => wf_sz W1
/-- the case of a new node -/
theorem cs_T {t : Nat → Int32} : ∀ R i par own cs inh S j S', pT t R i par own cs inh S = (j, some S') → tG S' S.1 6 = cs ∧ tG S' S.1 7 = inh ∧ tG S' S.1 5 = own
  | 0, _, _, _, _, _, _, _, _, e => by cases e
  | R + 1, i, par, own, cs, inh, S, j, S', e => by
    unfold pT at e
    split at e
    · have K := kp_tail (t := t) (kp_T R) (R := R) (n := S.1) (i := i + 1) (c := t i) (inh := inh) (S := tB S (t i) own cs inh par) (Nat.le_succ _) j S' e
      have q := fun j hj => (K.2.2 S.1 (Nat.lt_succ_self _)).2 j hj
      refine ⟨?_, ?_, ?_⟩
      · rw [q 6 (Or.inr (by decide)), tG_tB]; simp
      · rw [q 7 (Or.inr (by decide)), tG_tB]; simp
      · rw [q 5 (Or.inr (by decide)), tG_tB]; simp
    · cases e
