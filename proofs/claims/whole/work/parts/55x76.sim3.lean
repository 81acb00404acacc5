/-- the stack is ready for a TYPE -/
def Rdy (S : Tb) (st : List Fm) : Prop := (st = [] ∧ S.1 = 0) ∨ (¬ S.1 = 0 ∧ ∃ n s dg w r, st = (n, s, dg, w) :: r ∧ n < S.1 ∧ ((tG S n 0 = 123 ∧ s = 2) ∨ (tG S n 0 = 63 ∧ s = 4) ∨ ((tG S n 0 = 42 ∨ tG S n 0 = 47) ∧ s = 1)))
theorem rdy_sgn {S : Tb} {st : List Fm} (R : Rdy S st) (c : Int32) : sgn (S, st) c = bgn (S, st) c := by
  rcases R with ⟨rfl, h⟩ | ⟨h, n, s, dg, w, r, rfl, hn, hs⟩
  · unfold sgn; rw [if_pos h]
  · unfold sgn
    rw [if_neg h]
    dsimp only
    rcases hs with ⟨hk, rfl⟩ | ⟨hk, rfl⟩ | ⟨hk, rfl⟩
    · rw [hk, if_neg (by decide)]
      unfold sgn2; dsimp only
      rw [hk, if_pos rfl]
      rfl
    · rw [hk, if_neg (by decide)]
      unfold sgn2; dsimp only
      rw [hk, if_neg (by decide), if_pos rfl]
      rfl
    · have e1 : sz (tG S n 0) = false := by rcases hk with hk | hk <;> rw [hk] <;> rfl
      have e2 : ¬ tG S n 0 = 123 := by rcases hk with hk | hk <;> rw [hk] <;> decide
      have e3 : ¬ tG S n 0 = 63 := by rcases hk with hk | hk <;> rw [hk] <;> decide
      rw [e1, if_neg (by decide)]
      unfold sgn2; dsimp only
      rw [if_neg e2, if_neg e3]
      rfl
theorem rdy_whl {S : Tb} {st : List Fm} (R : Rdy S st) (B : Bel S st) : whl (S, st) = false := by
  rcases R with ⟨rfl, h⟩ | ⟨h, n, s, dg, w, r, rfl, hn, hs⟩
  · unfold whl; dsimp only; rw [h]; rfl
  · exact whl_no B
/-- a descent that the signs follow -/
def SmF (t : Nat → Int32) (N R : Nat) (rec : Nat → Nat → Int32 → Int32 → Int32 → Tb → Rp) : Prop := ∀ i S st, Rdy S st → Bel S st → WfP S → st.length + R = 5 → i ≤ N →
  Okk (i + 1) t N i (S, st) st (rec i (cxP st) (cxO S st) (cxC S st) (cxI S st) S)
/-- a descent that adds a child -/
def ChF (rec : Nat → Nat → Int32 → Int32 → Int32 → Tb → Rp) : Prop := ∀ i par own cs inh S j S', rec i par own cs inh S = (j, some S') → S.1 < S'.1 ∧ S'.2.2 S.1 = par
theorem Bel.cons {S : Tb} {st : List Fm} {f : Fm} (B : Bel S st) (h1 : f.1 < S.1) (h2 : sz (tG S f.1 0) = false) : Bel S (f :: st) := fun g hg => by
  rcases List.mem_cons.mp hg with rfl | hg
  · exact ⟨h1, h2⟩
  · exact B g hg
section SIM3
variable {t : Nat → Int32} {N R : Nat} {rec : Nat → Nat → Int32 → Int32 → Int32 → Tb → Rp}
theorem sim_fields (E : Ends t N) (hr : SmF t N R rec) (hk : KpF rec) {n : Nat} {st : List Fm} (hR : st.length + (R + 1) = 5) : ∀ (k i : Nat) (S : Tb) (dg : Nat) (w : Int32), n < S.1 → tG S n 0 = 123 → Bel S st → WfP S → i ≤ N → 90 ≤ i + k →
    Okk i t N i (S, (n, 0, dg, w) :: st) st (pFields t rec R n k i S)
  | 0, i, S, dg, w, hn, h123, B, W, hi, hik => by
    have B1 : Bel S ((n, 0, dg, w) :: st) := B.cons hn (by show sz (tG S n 0) = false; rw [h123]; rfl)
    refine ⟨run_no hi ?_ (whl_no B1), hi⟩
    rw [sgn_2 (by omega) B1]
    unfold sgn2; dsimp only
    rw [if_pos h123, E.2 i (by have := E.1; omega)]
    rfl
  | k + 1, i, S, dg, w, hn, h123, B, W, hi, hik => by
    have zz : ∀ f : Fm, f.1 = n → Bel S (f :: st) := fun f e => B.cons (by rw [e]; exact hn) (by rw [e, h123]; rfl)
    have sg : ∀ s dg w c, sgn (S, (n, s, dg, w) :: st) c = inStr (S, (n, s, dg, w) :: st) c n s dg w st := fun s dg w c => by
      rw [sgn_2 (by omega) (zz _ rfl)]; unfold sgn2; dsimp only; rw [if_pos h123]
    unfold pFields
    refine .ite (fun hc => ?_) fun hc => .ite (fun hc2 => ?_) fun hc2 => .ite (fun hc3 => ?_) fun hc3 => ?_
    · have hl : i < N := E.lt (by rw [hc]; decide)
      refine ⟨by omega, by omega, W, run_go hl ?_⟩
      rw [sg]; unfold inStr; rw [if_pos rfl, if_pos hc]
    · refine ⟨run_no hi ?_ (whl_no (zz _ rfl)), hi⟩
      rw [sg]; unfold inStr; rw [if_pos rfl, if_neg hc, if_neg]
      rintro ⟨q1, q2⟩
      have q2 : st.length + 1 < 5 := q2
      rcases hc2 with q | q
      · omega
      · rw [q] at q1; cases q1
    · have n1 : nm (t i) = true := bt fun q => hc2 (Or.inr q)
      have hl := E.nm n1
      refine ⟨(run_go hl (X' := (S, (n, 1, dg, t i - 97) :: st)) ?_).trans (run_no (by omega) ?_ (whl_no (zz _ rfl))), by omega⟩
      · rw [sg]; unfold inStr; rw [if_pos rfl, if_neg hc, if_pos ⟨n1, by show st.length + 1 < 5; have : ¬ R = 0 := fun q => hc2 (Or.inl q); omega⟩]
      · rw [sg]; unfold inStr; rw [if_neg (by decide), if_neg (by decide), if_pos rfl, if_neg hc3]
    · have n1 : nm (t i) = true := bt fun q => hc2 (Or.inr q)
      have hl := E.nm n1
      have hl2 : i + 1 < N := E.lt (by rw [Classical.not_not.mp hc3]; decide)
      have e1 : run t (N - i) i (S, (n, 0, dg, w) :: st) = run t (N - (i + 2)) (i + 2) (S, (n, 2, dg, t i - 97) :: st) := by
        refine (run_go hl (X' := (S, (n, 1, dg, t i - 97) :: st)) ?_).trans (run_go hl2 ?_)
        · rw [sg]; unfold inStr; rw [if_pos rfl, if_neg hc, if_pos ⟨n1, by show st.length + 1 < 5; have : ¬ R = 0 := fun q => hc2 (Or.inl q); omega⟩]
        · rw [sg]; unfold inStr; rw [if_neg (by decide), if_neg (by decide), if_pos rfl, if_pos (Classical.not_not.mp hc3)]
      have q := hr (i + 2) S ((n, 2, dg, t i - 97) :: st) (Or.inr ⟨by omega, n, 2, dg, _, st, rfl, hn, Or.inl ⟨h123, rfl⟩⟩) (zz _ rfl) W (by show st.length + 1 + R = 5; omega) (by omega)
      have a1 : cxO S ((n, 2, dg, t i - 97) :: st) = t i - 97 := by unfold cxO; dsimp only; rw [if_pos h123]
      have a2 : cxC S ((n, 2, dg, t i - 97) :: st) = -1 := by unfold cxC; dsimp only; rw [h123]; rfl
      have a3 : cxI S ((n, 2, dg, t i - 97) :: st) = t i - 97 := by unfold cxI; dsimp only; rw [if_pos h123]
      rw [a1, a2, a3] at q
      have K := hk (i + 2) (n + 1) (t i - 97) (-1) (t i - 97) S
      show Okk i t N i _ st (match rec (i + 2) (n + 1) (t i - 97) (-1) (t i - 97) S with | (j, none) => (j, none) | (j, some S') => if ¬ t j = 59 then (j, none) else pFields t rec R n k (j + 1) S')
      replace q : Okk (i + 2 + 1) t N (i + 2) (S, (n, 2, dg, t i - 97) :: st) ((n, 2, dg, t i - 97) :: st) (rec (i + 2) (n + 1) (t i - 97) (-1) (t i - 97) S) := q
      revert q K
      generalize rec (i + 2) (n + 1) (t i - 97) (-1) (t i - 97) S = o
      intro K q
      match o, q, K with
      | (j, none), q, K => exact ⟨e1.trans q.1, q.2⟩
      | (j, some S'), q, K =>
        obtain ⟨q1, q2, q3, q4⟩ := q
        have K' := K j S' rfl
        have k0 : tG S' n 0 = 123 := by rw [(K'.2.2 n hn).2 0 (Or.inl rfl)]; exact h123
        have hn' : n < S'.1 := by have := K'.1; omega
        have B' : Bel S' st := B.kp K'
        have e2 : fin S' ((n, 2, dg, t i - 97) :: st) = (n, 3, dg, t i - 97) :: st := by
          unfold fin; rw [k0, if_neg (by decide), if_pos rfl]
        rw [e2] at q4
        have zz' : ∀ f : Fm, f.1 = n → Bel S' (f :: st) := fun f e => B'.cons (by rw [e]; exact hn') (by rw [e, k0]; rfl)
        have sg' : ∀ s dg w c, sgn (S', (n, s, dg, w) :: st) c = inStr (S', (n, s, dg, w) :: st) c n s dg w st := fun s dg w c => by
          rw [sgn_2 (by omega) (zz' _ rfl)]; unfold sgn2; dsimp only; rw [if_pos k0]
        refine .ite (fun h59 => ?_) fun h59 => ?_
        · refine ⟨e1.trans (q4.trans (run_no q2 ?_ (whl_no (zz' _ rfl)))), q2⟩
          rw [sg']; unfold inStr; rw [if_neg (by decide), if_neg (by decide), if_neg (by decide), if_neg h59]
        · have h59' := Classical.not_not.mp h59
          have hj : j < N := E.lt (by rw [h59']; decide)
          refine .pre (e1.trans (q4.trans (run_go hj (X' := (S', (n, 0, dg, t i - 97) :: st)) ?_))) (sim_fields E hr hk hR k (j + 1) S' dg (t i - 97) hn' k0 B' q3 hj (by omega)) (by omega)
          rw [sg']; unfold inStr; rw [if_neg (by decide), if_neg (by decide), if_neg (by decide), if_pos h59']
end SIM3
