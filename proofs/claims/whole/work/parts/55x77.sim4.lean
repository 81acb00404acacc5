section SIM4
variable {t : Nat → Int32} {N R : Nat} {rec : Nat → Nat → Int32 → Int32 → Int32 → Tb → Rp}
theorem hc_true {S : Tb} {n k : Nat} (hk : k < S.1) (h : S.2.2 k = n + 1) : hc S n = true := by
  unfold hc; rw [List.any_eq_true]; exact ⟨k, List.mem_range.mpr hk, by rw [h]; exact decide_eq_true rfl⟩
theorem hc_false {S : Tb} {n : Nat} (h : ∀ k, k < S.1 → ¬ S.2.2 k = n + 1) : hc S n = false := by
  unfold hc; rw [List.any_eq_false]; intro k hk; rw [decide_eq_true_iff]; exact h k (List.mem_range.mp hk)
/-- the digits of a case -/
theorem cas_dig {S : Tb} {n dg i : Nat} {w : Int32} {st : List Fm} (E : Ends t N) (h0 : ¬ S.1 = 0) (hn : n < S.1) (h63 : tG S n 0 = 63) (B : Bel S st) (hm : ¬ nd t i = 0) :
    run t (N - i) i (S, (n, 2, dg, w) :: st) = run t (N - (i + nd t i)) (i + nd t i) (S, (n, 3, nd t i, fg t i (nd t i)) :: st) ∧ i + nd t i ≤ N ∧ (3 ≤ nd t i ∨ di (t (i + nd t i)) = false) := by
  have sg : ∀ s dg w c, sgn (S, (n, s, dg, w) :: st) c = inCho (S, (n, s, dg, w) :: st) c n s dg w st := fun s dg w c => by
    rw [sgn_2 h0 (B.cons hn (by show sz (tG S n 0) = false; rw [h63]; rfl))]; unfold sgn2; dsimp only; rw [h63, if_neg (by decide), if_pos rfl]
  have s1 : di (t i) = true → run t (N - i) i (S, (n, 2, dg, w) :: st) = run t (N - (i + 1)) (i + 1) (S, (n, 3, 1, fg t i 1) :: st) := by
    intro a
    refine run_go (E.di a) ?_
    rw [sg]; unfold inCho
    rw [if_neg (by decide), if_neg (by decide), if_neg (by decide), if_neg (by decide), if_neg (fun q => by rw [q.2.1] at a; revert a; decide), if_pos ⟨a, Or.inl rfl⟩, if_pos rfl, if_pos rfl]
    have : fg t i 1 = t i - 48 := by show 0 * 10 + t (i + 0) - 48 = _; rw [show (0 : Int32) * 10 = 0 from rfl, Int32.zero_add, Nat.add_zero]
    rw [this]
  have s2 : ∀ m, 1 ≤ m → m < 3 → di (t (i + m)) = true → run t (N - (i + m)) (i + m) (S, (n, 3, m, fg t i m) :: st) = run t (N - (i + (m + 1))) (i + (m + 1)) (S, (n, 3, m + 1, fg t i (m + 1)) :: st) := by
    intro m h1 h3 a
    refine run_go (E.di a) ?_
    rw [sg]; unfold inCho
    rw [if_neg (by decide), if_neg (by decide), if_neg (by decide), if_neg (by decide), if_neg (fun q => by simp at q), if_pos ⟨a, Or.inr h3⟩, if_neg (by decide), if_neg (by decide)]
    rfl
  rcases nd_cases hm with ⟨a1, e, a2⟩ | ⟨a1, e, a2, a3⟩ | ⟨a1, e, a2, a3⟩
  · rw [e]; exact ⟨s1 a1, E.di a1, Or.inr a2⟩
  · rw [e]; exact ⟨(s1 a1).trans (s2 1 (by decide) (by decide) a2), E.di a2, Or.inr a3⟩
  · rw [e]; exact ⟨((s1 a1).trans (s2 1 (by decide) (by decide) a2)).trans (s2 2 (by decide) (by decide) a3), E.di a3, Or.inl (Nat.le_refl _)⟩
theorem sim_cases (E : Ends t N) (hr : SmF t N R rec) (hk : KpF rec) (hch : ChF rec) {n : Nat} {st : List Fm} {inh : Int32} (hR : st.length + (R + 1) = 5) : ∀ (k : Nat) (b : Bool) (i : Nat) (S : Tb) (dg : Nat) (w : Int32), n < S.1 → tG S n 0 = 63 → tG S n 7 = inh → b = !hc S n → Bel S st → WfP S → i ≤ N → 90 ≤ i + k →
    Okk i t N i (S, (n, 2, dg, w) :: st) st (pCases t rec n inh k b i S)
  | 0, b, i, S, dg, w, hn, h63, h7, hb, B, W, hi, hik => by
    have B1 : Bel S ((n, 2, dg, w) :: st) := B.cons hn (by show sz (tG S n 0) = false; rw [h63]; rfl)
    refine ⟨run_no hi ?_ (whl_no B1), hi⟩
    rw [sgn_2 (by omega) B1]
    unfold sgn2; dsimp only
    rw [h63, if_neg (by decide), if_pos rfl, E.2 i (by have := E.1; omega)]
    unfold inCho
    rw [if_neg (by decide), if_neg (by decide), if_neg (by decide), if_neg (by decide), if_neg (fun q => absurd q.2.1 (by decide)), if_neg (fun q => absurd q.1 (by decide)), if_neg (by decide)]
  | k + 1, b, i, S, dg, w, hn, h63, h7, hb, B, W, hi, hik => by
    have zz : ∀ f : Fm, f.1 = n → Bel S (f :: st) := fun f e => B.cons (by rw [e]; exact hn) (by rw [e, h63]; rfl)
    have sg : ∀ s dg w c, sgn (S, (n, s, dg, w) :: st) c = inCho (S, (n, s, dg, w) :: st) c n s dg w st := fun s dg w c => by
      rw [sgn_2 (by omega) (zz _ rfl)]; unfold sgn2; dsimp only; rw [h63, if_neg (by decide), if_pos rfl]
    unfold pCases
    refine .ite (fun hcc => ?_) fun hcc => .ite (fun hc2 => ?_) fun hc2 => .ite (fun hc3 => ?_) fun hc3 => ?_
    · have hl : i < N := E.lt (by rw [hcc.2]; decide)
      refine ⟨by omega, by omega, W, run_go hl ?_⟩
      have : hc S n = true := by have := hcc.1; rw [hb] at this; cases q : hc S n with | true => rfl | false => rw [q] at this; cases this
      rw [sg]; unfold inCho; rw [if_neg (by decide), if_neg (by decide), if_neg (by decide), if_neg (by decide), if_pos ⟨rfl, hcc.2, this⟩]
    · refine ⟨run_no hi ?_ (whl_no (zz _ rfl)), hi⟩
      have q0 := nd_zero hc2
      rw [sg]; unfold inCho; rw [if_neg (by decide), if_neg (by decide), if_neg (by decide), if_neg (by decide), if_neg (fun q => hcc ⟨by rw [hb, q.2.2]; rfl, q.2.1⟩), if_neg (fun q => by rw [q0] at q; exact absurd q.1 (by decide)), if_neg (by simp)]
    · obtain ⟨e1, l1, f1⟩ := cas_dig (dg := dg) (w := w) E (by omega : ¬ S.1 = 0) hn h63 B hc2
      refine ⟨e1.trans (run_no l1 ?_ (whl_no (zz _ rfl))), l1⟩
      rw [sg]; unfold inCho
      rw [if_neg (by decide), if_neg (by decide), if_neg (by decide), if_neg (by decide), if_neg (by simp), if_neg, if_neg (fun q => hc3 q.2)]
      rintro ⟨q1, q2⟩
      rcases f1 with f1 | f1
      · rcases q2 with q2 | q2
        · cases q2
        · omega
      · rw [f1] at q1; cases q1
    · obtain ⟨e1, l1, f1⟩ := cas_dig (dg := dg) (w := w) E (by omega : ¬ S.1 = 0) hn h63 B hc2
      have hc3' := Classical.not_not.mp hc3
      have hl2 : i + nd t i < N := E.lt (by rw [hc3']; decide)
      have e2 : run t (N - i) i (S, (n, 2, dg, w) :: st) = run t (N - (i + nd t i + 1)) (i + nd t i + 1) (S, (n, 4, nd t i, fg t i (nd t i)) :: st) := by
        refine e1.trans (run_go hl2 ?_)
        rw [sg, hc3']; unfold inCho
        rw [if_neg (by decide), if_neg (by decide), if_neg (by decide), if_neg (by decide), if_neg (by simp), if_neg (fun q => absurd q.1 (by decide)), if_pos ⟨rfl, rfl⟩]
      have q := hr (i + nd t i + 1) S ((n, 4, nd t i, fg t i (nd t i)) :: st) (Or.inr ⟨by omega, n, 4, _, _, st, rfl, hn, Or.inr (Or.inl ⟨h63, rfl⟩)⟩) (zz _ rfl) W (by show st.length + 1 + R = 5; omega) (by omega)
      have a1 : ∀ w, cxO S ((n, 4, nd t i, w) :: st) = -1 := fun w => by unfold cxO; dsimp only; rw [h63]; rfl
      have a2 : ∀ w, cxC S ((n, 4, nd t i, w) :: st) = w := fun w => by unfold cxC; dsimp only; rw [if_pos h63]
      have a3 : ∀ w, cxI S ((n, 4, nd t i, w) :: st) = inh := fun w => by unfold cxI; dsimp only; rw [h63, if_neg (by decide)]; exact h7
      rw [a1, a2, a3] at q
      have K := hk (i + nd t i + 1) (n + 1) (-1) (fg t i (nd t i)) inh S
      have C := hch (i + nd t i + 1) (n + 1) (-1) (fg t i (nd t i)) inh S
      show Okk i t N i _ st (match rec (i + nd t i + 1) (n + 1) (-1) (fg t i (nd t i)) inh S with | (j, none) => (j, none) | (j, some S') => if ¬ t j = 59 then (j, none) else pCases t rec n inh k false (j + 1) S')
      replace q : Okk (i + nd t i + 1 + 1) t N (i + nd t i + 1) (S, (n, 4, nd t i, fg t i (nd t i)) :: st) ((n, 4, nd t i, fg t i (nd t i)) :: st) (rec (i + nd t i + 1) (n + 1) (-1) (fg t i (nd t i)) inh S) := q
      revert C K q
      generalize rec (i + nd t i + 1) (n + 1) (-1) (fg t i (nd t i)) inh S = o
      intro K C q
      match o, q, K, C with
      | (j, none), q, K, C => exact ⟨e2.trans q.1, q.2⟩
      | (j, some S'), q, K, C =>
        obtain ⟨q1, q2, q3, q4⟩ := q
        have K' := K j S' rfl
        have C' := C j S' rfl
        have k0 : tG S' n 0 = 63 := by rw [(K'.2.2 n hn).2 0 (Or.inl rfl)]; exact h63
        have k7 : tG S' n 7 = inh := by rw [(K'.2.2 n hn).2 7 (Or.inr (by decide))]; exact h7
        have hn' : n < S'.1 := by have := K'.1; omega
        have B' : Bel S' st := B.kp K'
        have e3 : ∀ w, fin S' ((n, 4, nd t i, w) :: st) = (n, 5, nd t i, w) :: st := fun w => by
          unfold fin; rw [k0, if_neg (by decide), if_neg (by decide)]
        rw [e3] at q4
        have zz' : ∀ f : Fm, f.1 = n → Bel S' (f :: st) := fun f e => B'.cons (by rw [e]; exact hn') (by rw [e, k0]; rfl)
        have sg' : ∀ s dg w c, sgn (S', (n, s, dg, w) :: st) c = inCho (S', (n, s, dg, w) :: st) c n s dg w st := fun s dg w c => by
          rw [sgn_2 (by omega) (zz' _ rfl)]; unfold sgn2; dsimp only; rw [k0, if_neg (by decide), if_pos rfl]
        refine .ite (fun h59 => ?_) fun h59 => ?_
        · refine ⟨e2.trans (q4.trans (run_no q2 ?_ (whl_no (zz' _ rfl)))), q2⟩
          rw [sg']; unfold inCho; rw [if_neg (by decide), if_neg (by decide), if_neg (by decide), if_pos rfl, if_neg h59]
        · have h59' := Classical.not_not.mp h59
          have hj : j < N := E.lt (by rw [h59']; decide)
          refine .pre (e2.trans (q4.trans (run_go hj (X' := (S', (n, 2, nd t i, fg t i (nd t i)) :: st)) ?_))) (sim_cases E hr hk hch hR k false (j + 1) S' _ _ hn' k0 k7 (by rw [hc_true C'.1 C'.2]; rfl) B' q3 hj (by omega)) (by omega)
          rw [sg']; unfold inCho; rw [if_neg (by decide), if_neg (by decide), if_neg (by decide), if_pos rfl, if_pos h59']
/-- the tail of a type just begun -/
theorem sim_tail (E : Ends t N) (hr : SmF t N R rec) (hk : KpF rec) (hch : ChF rec) {n i : Nat} {st : List Fm} {c inh : Int32} {S : Tb} (hR : st.length + (R + 1) = 5) (hn : S.1 = n + 1) (hc0 : tG S n 0 = c) (h3 : tG S n 3 = 0) (h7 : tG S n 7 = inh) (B : Bel S st) (W : WfP S) (hi : i ≤ N) (h1 : 1 ≤ i)
    (hcc : sz c = true ∨ sm c = true ∨ c = 123 ∨ dp c = true) : Okk i t N i (S, if sm c = true then fin S st else (n, 0, 0, 0) :: st) st (pTail t rec R c n inh i S) := by
  have key : ∀ k, k < S.1 → ¬ S.2.2 k = n + 1 := fun k hk q => by have := W k hk; omega
  unfold pTail
  refine .ite (fun c1 => ?_) fun c1 => .ite (fun c2 => ?_) fun c2 => .ite (fun c3 => ?_) fun c3 => .ite (fun c4 => ?_) fun c4 => .ite (fun c5 => ?_) fun c5 => ?_
  · have e0 : sm c = false := by rcases c1 with rfl | rfl <;> rfl
    have z0 : sz c = false := by rcases c1 with rfl | rfl <;> rfl
    have n123 : ¬ c = 123 := by rcases c1 with rfl | rfl <;> decide
    have n63 : ¬ c = 63 := by rcases c1 with rfl | rfl <;> decide
    rw [e0, if_neg (by decide)]
    have B1 : Bel S ((n, 0, 0, 0) :: st) := B.cons (by show n < S.1; omega) (by show sz (tG S n 0) = false; rw [hc0]; exact z0)
    have sg : ∀ x, sgn (S, (n, 0, 0, 0) :: st) x = inMny (S, (n, 0, 0, 0) :: st) x n 0 0 0 st := fun x => by
      rw [sgn_2 (by omega) B1]; unfold sgn2; dsimp only; rw [hc0, if_neg n123, if_neg n63]
    refine .ite (fun hc2 => ⟨run_no hi ?_ (whl_no B1), hi⟩) fun hc2 => ?_
    · rw [sg]; unfold inMny; rw [if_neg (by decide), if_neg (by rw [hc2]; decide)]
    · have n1 := bt hc2
      have hl := E.nm n1
      have e1 : run t (N - i) i (S, (n, 0, 0, 0) :: st) = run t (N - (i + 1)) (i + 1) (tF S n 4 (t i - 97), (n, 1, 0, 0) :: st) := by
        refine run_go hl ?_
        rw [sg]; unfold inMny; rw [if_neg (by decide), if_pos n1]
      have k0 : tG (tF S n 4 (t i - 97)) n 0 = c := by rw [tG_k (by decide)]; exact hc0
      have q := hr (i + 1) (tF S n 4 (t i - 97)) ((n, 1, 0, 0) :: st) (Or.inr ⟨by show ¬ S.1 = 0; omega, n, 1, 0, 0, st, rfl, by show n < S.1; omega, Or.inr (Or.inr ⟨by rw [k0]; exact c1, rfl⟩)⟩) ((B.tF (by decide)).cons (by show n < S.1; omega) (by show sz (tG (tF S n 4 (t i - 97)) n 0) = false; rw [k0]; exact z0)) W (by show st.length + 1 + R = 5; omega) (by omega)
      have a1 : cxO (tF S n 4 (t i - 97)) ((n, 1, 0, 0) :: st) = -1 := by unfold cxO; dsimp only; rw [k0, if_neg n123]
      have a2 : cxC (tF S n 4 (t i - 97)) ((n, 1, 0, 0) :: st) = -1 := by unfold cxC; dsimp only; rw [k0, if_neg n63]
      have a3 : cxI (tF S n 4 (t i - 97)) ((n, 1, 0, 0) :: st) = inh := by unfold cxI; dsimp only; rw [k0, if_neg n123, tG_7 (by decide)]; exact h7
      rw [a1, a2, a3] at q
      replace q : Okk (i + 1 + 1) t N (i + 1) (tF S n 4 (t i - 97), (n, 1, 0, 0) :: st) ((n, 1, 0, 0) :: st) (rec (i + 1) (n + 1) (-1) (-1) inh (tF S n 4 (t i - 97))) := q
      have K := hk (i + 1) (n + 1) (-1) (-1) inh (tF S n 4 (t i - 97))
      revert K q
      generalize rec (i + 1) (n + 1) (-1) (-1) inh (tF S n 4 (t i - 97)) = o
      intro q K
      match o, q, K with
      | (j, none), q, K => exact ⟨e1.trans q.1, q.2⟩
      | (j, some S'), q, K =>
        obtain ⟨q1, q2, q3, q4⟩ := q
        have K' := K j S' rfl
        refine ⟨by omega, q2, q3, e1.trans (q4.trans ?_)⟩
        have k2 : tG S' n 0 = c := by rw [(K'.2.2 n (by show n < S.1; omega)).2 0 (Or.inl rfl)]; exact k0
        have : fin S' ((n, 1, 0, 0) :: st) = fin S' st := by show (if tG S' n 0 = 42 ∨ tG S' n 0 = 47 then _ else _) = _; rw [k2, if_pos c1]
        rw [this]
  · subst c2
    rw [if_neg (by decide)]
    have B1 : ∀ f : Fm, f.1 = n → Bel S (f :: st) := fun f e => B.cons (by rw [e]; omega) (by rw [e, hc0]; rfl)
    have sg : ∀ x, sgn (S, (n, 0, 0, 0) :: st) x = inCho (S, (n, 0, 0, 0) :: st) x n 0 0 0 st := fun x => by
      rw [sgn_2 (by omega) (B1 _ rfl)]; unfold sgn2; dsimp only; rw [hc0, if_neg (by decide), if_pos rfl]
    refine .ite (fun hc2 => ⟨run_no hi ?_ (whl_no (B1 _ rfl)), hi⟩) fun hc2 => ?_
    · rw [sg]; unfold inCho; rw [if_neg (by decide), if_pos rfl, if_neg (by rw [hc2]; decide)]
    have n1 := bt hc2
    have hl := E.nm n1
    have e1 : run t (N - i) i (S, (n, 0, 0, 0) :: st) = run t (N - (i + 1)) (i + 1) (tF S n 4 (t i - 97), (n, 1, 0, 0) :: st) := by
      refine run_go hl ?_
      rw [sg]; unfold inCho; rw [if_neg (by decide), if_pos rfl, if_pos n1]
    have k0 : tG (tF S n 4 (t i - 97)) n 0 = 63 := by rw [tG_k (by decide)]; exact hc0
    have B2 : ∀ f : Fm, f.1 = n → Bel (tF S n 4 (t i - 97)) (f :: st) := fun f e => (B.tF (by decide)).cons (by rw [e]; show n < S.1; omega) (by rw [e, k0]; rfl)
    have sg2 : ∀ x, sgn (tF S n 4 (t i - 97), (n, 1, 0, 0) :: st) x = inCho (tF S n 4 (t i - 97), (n, 1, 0, 0) :: st) x n 1 0 0 st := fun x => by
      rw [sgn_2 (by show ¬ S.1 = 0; omega) (B2 _ rfl)]; unfold sgn2; dsimp only; rw [k0, if_neg (by decide), if_pos rfl]
    refine .ite (fun hc3 => ⟨e1.trans (run_no (by omega) ?_ (whl_no (B2 _ rfl))), by omega⟩) fun hc3 => ?_
    · rw [sg2]; unfold inCho; rw [if_neg (by decide), if_neg (by decide), if_pos rfl, if_neg hc3]
    have hl2 : i + 1 < N := E.lt (by rw [Classical.not_not.mp hc3]; decide)
    refine .pre (e1.trans (run_go hl2 (X' := (tF S n 4 (t i - 97), (n, 2, 0, 0) :: st)) ?_)) (sim_cases E hr hk hch hR 90 true (i + 2) _ 0 0 (by show n < S.1; omega) k0 (by rw [tG_7 (by decide)]; exact h7) ?_ (B.tF (by decide)) W (by omega) (by omega)) (by omega)
    · rw [sg2]; unfold inCho; rw [if_neg (by decide), if_neg (by decide), if_pos rfl, if_pos (Classical.not_not.mp hc3)]
    · rw [hc_false (S := tF S n 4 (t i - 97)) key]; rfl
  · subst c3
    rw [if_neg (by decide)]
    exact sim_fields E hr hk hR 90 i S 0 0 (by omega) hc0 B W hi (by omega)
  · subst c4
    rw [if_neg (by decide)]
    exact sim_sz E (by omega) (by rw [hc0]; rfl) (by rw [hc0]; rfl) B W hi h3
  · rw [c5, if_pos rfl]
    exact ⟨Nat.le_refl _, hi, W, rfl⟩
  · have hz : sz c = true := by
      rcases hcc with h | h | h | h
      · exact h
      · exact absurd h c5
      · exact absurd h c3
      · unfold dp at h
        simp only [Bool.or_eq_true, decide_eq_true_iff] at h
        rcases h with (h | h) | h
        · exact absurd (Or.inl h) c1
        · exact absurd (Or.inr h) c1
        · exact absurd h c2
    rw [if_neg c5]
    exact sim_sz E (by omega) (by rw [hc0]; exact hz) (by rw [hc0, if_neg c4]) B W hi h3
end SIM4
theorem ch_T {t : Nat → Int32} : ∀ R, ChF (pT t R)
  | 0 => fun _ _ _ _ _ _ _ _ e => by cases e
  | R + 1 => fun i par own cs inh S j S' e => by
    unfold pT at e
    split at e
    · have K := kp_tail (t := t) (kp_T R) (R := R) (n := S.1) (i := i + 1) (c := t i) (inh := inh) (S := tB S (t i) own cs inh par) (Nat.le_succ _) j S' e
      have h1 : S.1 + 1 ≤ S'.1 := K.1
      refine ⟨by omega, ?_⟩
      rw [(K.2.2 S.1 (Nat.lt_succ_self _)).1]
      exact if_pos rfl
    · cases e
theorem sim_T {t : Nat → Int32} {N : Nat} (E : Ends t N) : ∀ R, SmF t N R (pT t R)
  | 0 => fun i S st rd B W hR hi => by
    refine ⟨run_no hi ?_ (rdy_whl rd B), hi⟩
    rw [rdy_sgn rd]; unfold bgn
    exact if_pos (Or.inr (Or.inl (show st.length = 5 from hR)))
  | R + 1 => fun i S st rd B W hR hi => by
    unfold pT
    by_cases c : (sz (t i) || sm (t i) || decide (t i = 123) || (dp (t i) && !decide (R = 0))) = true
    · rw [if_pos c]
      have hl : i < N := E.lt fun q => by rw [q] at c; revert c; cases (decide (R = 0)) <;> decide
      have cc : sz (t i) = true ∨ sm (t i) = true ∨ t i = 123 ∨ dp (t i) = true := by
        simp only [Bool.or_eq_true, Bool.and_eq_true, decide_eq_true_iff] at c
        rcases c with ((c | c) | c) | c
        · exact Or.inl c
        · exact Or.inr (Or.inl c)
        · exact Or.inr (Or.inr (Or.inl c))
        · exact Or.inr (Or.inr (Or.inr c.1))
      have hp : cxP st ≤ S.1 := by
        match st, B with
        | [], _ => exact Nat.zero_le _
        | (n, s, dg, w) :: r, B => exact (B _ (List.mem_cons_self ..)).1
      have B1 : Bel (bg (S, st) (t i)) st := B.kp Kep.tB
      refine .pre (run_go hl (X' := (bg (S, st) (t i), if sm (t i) = true then fin (bg (S, st) (t i)) st else (S.1, 0, 0, 0) :: st)) ?_) (sim_tail E (sim_T E R) (kp_T R) (ch_T R) (n := S.1) (st := st) hR rfl (by rw [bg, tG_tB]; simp) (by rw [bg, tG_tB]; simp) (by rw [bg, tG_tB]; simp) B1 (W.tB hp) hl (by omega) cc) (Nat.le_refl _)
      rw [rdy_sgn rd]; unfold bgn
      rw [if_neg]
      rintro (q | q | ⟨q1, q2⟩)
      · simp only [Bool.or_eq_false_iff, decide_eq_false_iff_not] at q
        rcases cc with c | c | c | c
        · rw [c] at q; exact absurd q.1.2 (by decide)
        · rw [c] at q; exact absurd q.1.1.1 (by decide)
        · exact q.2 c
        · rw [c] at q; exact absurd q.1.1.2 (by decide)
      · have q : st.length = 5 := q
        omega
      · have q2 : st.length = 4 := q2
        have : R = 0 := by omega
        subst this
        have z0 : sz (t i) = false ∧ sm (t i) = false ∧ ¬ t i = 123 := by
          unfold dp at q1
          simp only [Bool.or_eq_true, decide_eq_true_iff] at q1
          rcases q1 with (q | q) | q <;> rw [q] <;> decide
        rw [z0.1, z0.2.1, decide_eq_false z0.2.2] at c
        simp at c
    · rw [if_neg c]
      refine ⟨run_no hi ?_ (rdy_whl rd B), hi⟩
      rw [rdy_sgn rd]; unfold bgn
      rw [if_pos]
      simp only [Bool.or_eq_true, Bool.and_eq_true, not_or, Bool.not_eq_true', decide_eq_true_iff, decide_eq_false_iff_not, Bool.not_eq_true] at c
      obtain ⟨⟨⟨c1, c2⟩, c3⟩, c4⟩ := c
      by_cases q : dp (t i) = true
      · have : R = 0 := by
          by_cases r : R = 0
          · exact r
          · exact absurd ⟨q, r⟩ c4
        exact Or.inr (Or.inr ⟨q, by show st.length = 4; omega⟩)
      · refine Or.inl ?_
        rw [c1, c2, decide_eq_false c3]
        simp only [Bool.not_eq_true] at q
        rw [q]; rfl
/-- the whole text: what the descent says is what the signs say -/
theorem sim_top {t : Nat → Int32} {N : Nat} (E : Ends t N) (F : Nat → Nat → Int32) (P : Nat → Nat) : (match pT t 5 0 0 (-1) (-1) (-1) (0, F, P) with
    | (j, none) => run t N 0 ((0, F, P), []) = (j, none) ∧ j ≤ N
    | (j, some S') => j ≤ N ∧ WfP S' ∧ 0 < S'.1 ∧ run t N 0 ((0, F, P), []) = (j, if j = N then some S' else none)) := by
  have q := sim_T E 5 0 (0, F, P) [] (Or.inl ⟨rfl, rfl⟩) (fun f hf => nomatch hf) (fun k hk => absurd hk (Nat.not_lt_zero _)) rfl (Nat.zero_le _)
  have C := ch_T (t := t) 5 0 0 (-1) (-1) (-1) (0, F, P)
  replace q : Okk 1 t N 0 ((0, F, P), []) [] (pT t 5 0 0 (-1) (-1) (-1) (0, F, P)) := q
  revert C q
  generalize pT t 5 0 0 (-1) (-1) (-1) (0, F, P) = o
  intro C q
  match o, q, C with
  | (j, none), q, C => exact q
  | (j, some S'), q, C =>
    obtain ⟨q1, q2, q3, q4⟩ := q
    have h0 : 0 < S'.1 := (C j S' rfl).1
    refine ⟨q2, q3, h0, ?_⟩
    rw [Nat.sub_zero] at q4
    rw [q4]
    show run t (N - j) j (S', []) = _
    by_cases e : j = N
    · subst e
      rw [Nat.sub_self, if_pos rfl]
      unfold run whl
      rw [decide_eq_false (by show ¬ S'.1 = 0; omega)]; rfl
    · rw [if_neg e]
      have hj : j < N := by omega
      rw [run_s hj]
      have : sgn (S', []) (t j) = none := by
        unfold sgn; rw [if_neg (by show ¬ S'.1 = 0; omega)]
      rw [this]
