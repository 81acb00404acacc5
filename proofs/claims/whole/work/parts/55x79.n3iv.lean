/-! what the signs keep -/
def kd4 (c : Int32) : Bool := decide (c = 123) || decide (c = 63) || decide (c = 42) || decide (c = 47)
theorem kd4_sz {c : Int32} (h : kd4 c = true) : sz c = false := by
  unfold kd4 at h
  simp only [Bool.or_eq_true, decide_eq_true_iff] at h
  rcases h with ((rfl | rfl) | rfl) | rfl <;> rfl
def All4 (S : Tb) (st : List Fm) : Prop := ∀ f, f ∈ st → f.1 < S.1 ∧ kd4 (tG S f.1 0) = true
def Iv (X : Cf) : Prop := WfP X.1 ∧ match X.2 with | [] => True | f :: r => f.1 < X.1.1 ∧ (kd4 (tG X.1 f.1 0) = true ∨ sz (tG X.1 f.1 0) = true) ∧ All4 X.1 r
theorem All4.bel {S : Tb} {st : List Fm} (A : All4 S st) : Bel S st := fun f hf => ⟨(A f hf).1, kd4_sz (A f hf).2⟩
theorem fin_sub {S : Tb} {f : Fm} : ∀ {st : List Fm}, f ∈ fin S st → ∃ f', f' ∈ st ∧ f'.1 = f.1
  | [], h => nomatch h
  | (n, s, dg, w) :: r, h => by
    unfold fin at h
    by_cases c : tG S n 0 = 42 ∨ tG S n 0 = 47
    · rw [if_pos c] at h
      obtain ⟨f', h1, h2⟩ := fin_sub h
      exact ⟨f', List.mem_cons_of_mem _ h1, h2⟩
    · rw [if_neg c] at h
      rcases List.mem_cons.mp h with rfl | h
      · exact ⟨_, List.mem_cons_self .., rfl⟩
      · exact ⟨f, List.mem_cons_of_mem _ h, rfl⟩
theorem All4.fin {S : Tb} {st : List Fm} (A : All4 S st) : All4 S (fin S st) := fun f hf => by
  obtain ⟨f', h1, h2⟩ := fin_sub hf
  rw [← h2]; exact A f' h1
theorem All4.iv {S : Tb} {st : List Fm} (W : WfP S) (A : All4 S st) : Iv (S, st) := by
  refine ⟨W, ?_⟩
  match st, A with
  | [], _ => trivial
  | f :: r, A => exact ⟨(A f (List.mem_cons_self ..)).1, Or.inl (A f (List.mem_cons_self ..)).2, fun x hx => A x (List.mem_cons_of_mem _ hx)⟩
theorem All4.kp {m : Nat} {S S' : Tb} {st : List Fm} (A : All4 S st) (k : Kep m S S') : All4 S' st := fun f hf => ⟨by have := (A f hf).1; have := k.1; omega, by rw [(k.2.2 _ (A f hf).1).2 0 (Or.inl rfl)]; exact (A f hf).2⟩
theorem All4.tl {S : Tb} {f : Fm} {r : List Fm} (A : All4 S (f :: r)) : All4 S r := fun x hx => A x (List.mem_cons_of_mem _ hx)
theorem All4.re {S : Tb} {n s dg s' dg' : Nat} {w w' : Int32} {r : List Fm} (A : All4 S ((n, s, dg, w) :: r)) : All4 S ((n, s', dg', w') :: r) := fun x hx => by
  rcases List.mem_cons.mp hx with rfl | hx
  · exact A (n, s, dg, w) (List.mem_cons_self ..)
  · exact A x (List.mem_cons_of_mem _ hx)
theorem cxP_le {S : Tb} {st : List Fm} (A : All4 S st) : cxP st ≤ S.1 := by
  match st, A with
  | [], _ => exact Nat.zero_le _
  | (n, s, dg, w) :: r, A => exact (A _ (List.mem_cons_self ..)).1
theorem iv_bgn {S : Tb} {st : List Fm} {c : Int32} {X' : Cf} (W : WfP S) (A : All4 S st) (h : bgn (S, st) c = some X') : Iv X' := by
  unfold bgn at h
  dsimp only at h
  split at h
  · cases h
  · rename_i hn
    simp only [Option.some.injEq] at h
    rw [← h]
    have W' : WfP (bg (S, st) c) := W.tB (cxP_le A)
    have A' : All4 (bg (S, st) c) st := A.kp Kep.tB
    by_cases e : sm c = true
    · rw [if_pos e]; exact A'.fin.iv W'
    · rw [if_neg e]
      refine ⟨W', Nat.lt_succ_self _, ?_, A'⟩
      have : tG (bg (S, st) c) S.1 0 = c := by unfold bg; rw [tG_tB]; simp
      rw [this]
      have g : (sm c || dp c || sz c || decide (c = 123)) = true := bt fun q => hn (Or.inl q)
      simp only [Bool.or_eq_true, decide_eq_true_iff] at g
      rcases g with ((g | g) | g) | g
      · exact absurd g e
      · refine Or.inl ?_
        unfold dp at g
        simp only [Bool.or_eq_true, decide_eq_true_iff] at g
        rcases g with (rfl | rfl) | rfl <;> rfl
      · exact Or.inr g
      · rw [g]; exact Or.inl rfl
theorem iv_sgn2 {S : Tb} {st : List Fm} {c : Int32} {X' : Cf} (W : WfP S) (A : All4 S st) (h : sgn2 (S, st) c = some X') : Iv X' := by
  match st, A, h with
  | [], _, h => cases h
  | (n, s, dg, w) :: r, A, h =>
    have f1 : ∀ {s' dg' : Nat} {w' : Int32} {X' : Cf}, some (S, (n, s', dg', w') :: r) = some X' → Iv X' := fun e => by
      rw [← Option.some.inj e]; exact A.re.iv W
    have f2 : ∀ {v : Int32} {s' dg' : Nat} {w' : Int32} {X' : Cf}, some (tF S n 4 v, (n, s', dg', w') :: r) = some X' → Iv X' := fun e => by
      rw [← Option.some.inj e]
      exact (A.re.kp (Kep.tF (m := 0) (Nat.zero_le _) (by decide))).iv W
    have f3 : ∀ {X' : Cf}, some (S, fin S r) = some X' → Iv X' := fun e => by
      rw [← Option.some.inj e]; exact A.tl.fin.iv W
    unfold sgn2 at h
    dsimp only at h
    split at h
    · unfold inStr at h
      dsimp only at h
      split at h
      · split at h
        · exact f3 h
        · split at h
          · exact f1 h
          · cases h
      · split at h
        · exact iv_bgn W A h
        · split at h
          · split at h
            · exact f1 h
            · cases h
          · split at h
            · exact f1 h
            · cases h
    · split at h
      · unfold inCho at h
        dsimp only at h
        split at h
        · exact iv_bgn W A h
        · split at h
          · split at h
            · exact f2 h
            · cases h
          · split at h
            · split at h
              · exact f1 h
              · cases h
            · split at h
              · split at h
                · exact f1 h
                · cases h
              · split at h
                · exact f3 h
                · split at h
                  · exact f1 h
                  · split at h
                    · exact f1 h
                    · cases h
      · unfold inMny at h
        dsimp only at h
        split at h
        · exact iv_bgn W A h
        · split at h
          · exact f2 h
          · cases h
theorem iv_sgn {X : Cf} {c : Int32} {X' : Cf} (I : Iv X) (h : sgn X c = some X') : Iv X' := by
  obtain ⟨S, st⟩ := X
  obtain ⟨W, I⟩ := I
  unfold sgn at h
  dsimp only at h W I
  split at h
  · rename_i h0
    refine iv_bgn W ?_ h
    match st, I with
    | [], _ => exact fun f hf => nomatch hf
    | f :: r, I => exact absurd I.1 (by omega)
  · match st, I, h with
    | [], _, h => cases h
    | (n, s, dg, w) :: r, I, h =>
      dsimp only at h
      obtain ⟨i1, i2, i3⟩ := I
      split at h
      · rename_i hz
        have f : ∀ {v : Int32} {j s' dg' : Nat} {w' : Int32} {X' : Cf} (hj : 0 < j ∧ j < 5), some (tF S n j v, (n, s', dg', w') :: r) = some X' → Iv X' := fun {v j s' dg' w' X'} hj e => by
          rw [← Option.some.inj e]
          exact ⟨W, i1, Or.inr (by show sz (tG (tF S n j v) n 0) = true; rw [tG_k hj.1]; exact hz), i3.kp (Kep.tF (m := 0) (Nat.zero_le _) hj)⟩
        generalize (if tG S n 0 = 112 then (7 : Int32) else 4) = lim at h
        split at h
        · split at h
          · cases h
          · exact f (j := 1) (by decide) h
        · split at h
          · exact f (j := 2) (by decide) h
          · split at h
            · exact f (j := 3) (by decide) h
            · split at h
              · cases h
              · exact iv_sgn2 W i3.fin h
      · rename_i hz
        refine iv_sgn2 W (fun x hx => ?_) h
        rcases List.mem_cons.mp hx with rfl | hx
        · rcases i2 with i2 | i2
          · exact ⟨i1, i2⟩
          · exact absurd i2 hz
        · exact i3 x hx
