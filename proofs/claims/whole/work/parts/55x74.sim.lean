/-! what a pass keeps -/
/-- nodes below m are as they were, and of all old ones kind, names and parent -/
def Kep (m : Nat) (S S' : Tb) : Prop := S.1 ≤ S'.1 ∧ (∀ k, k < m → ∀ j, tG S' k j = tG S k j) ∧ (∀ k, k < S.1 → S'.2.2 k = S.2.2 k ∧ ∀ j, (j = 0 ∨ 5 ≤ j) → tG S' k j = tG S k j)
theorem Kep.refl (m : Nat) (S : Tb) : Kep m S S := ⟨Nat.le_refl _, fun _ _ _ => rfl, fun _ _ => ⟨rfl, fun _ _ => rfl⟩⟩
theorem Kep.trans {m m' : Nat} {S S' S'' : Tb} (a : Kep m S S') (b : Kep m' S' S'') (hm : m ≤ m') : Kep m S S'' :=
  ⟨Nat.le_trans a.1 b.1, fun k hk j => (b.2.1 k (by omega) j).trans (a.2.1 k hk j), fun k hk => ⟨(b.2.2 k (by have := a.1; omega)).1.trans (a.2.2 k hk).1, fun j hj => ((b.2.2 k (by have := a.1; omega)).2 j hj).trans ((a.2.2 k hk).2 j hj)⟩⟩
theorem Kep.weak {m m' : Nat} {S S' : Tb} (a : Kep m S S') (hm : m' ≤ m) : Kep m' S S' := ⟨a.1, fun k hk => a.2.1 k (by omega), a.2.2⟩
theorem tG_tF {S : Tb} {n j k i : Nat} {v : Int32} : tG (tF S n j v) k i = if k = n ∧ i = j then v else tG S k i := rfl
theorem Kep.tF {S : Tb} {m n j : Nat} {v : Int32} (hn : m ≤ n) (hj : 0 < j ∧ j < 5) : Kep m S (tF S n j v) :=
  ⟨Nat.le_refl _, fun k hk i => by rw [tG_tF, if_neg (by omega)], fun k _ => ⟨rfl, fun i hi => by rw [tG_tF, if_neg (by omega)]⟩⟩
theorem tG_tB {S : Tb} {c own cs inh : Int32} {par k j : Nat} : tG (tB S c own cs inh par) k j = if k = S.1 ∧ j = 7 then inh else if k = S.1 ∧ j = 6 then cs else if k = S.1 ∧ j = 5 then own else if k = S.1 ∧ j = 3 then 0 else if k = S.1 ∧ j = 2 then 0 else if k = S.1 ∧ j = 0 then c else tG S k j := rfl
theorem Kep.tB {S : Tb} {c own cs inh : Int32} {par : Nat} : Kep S.1 S (tB S c own cs inh par) := by
  refine ⟨Nat.le_succ _, fun k hk j => ?_, fun k hk => ⟨?_, fun j _ => ?_⟩⟩
  · rw [tG_tB]; simp only [show ¬ k = S.1 by omega, false_and, if_false]
  · show (if k = S.1 then par else S.2.2 k) = _
    rw [if_neg (by omega)]
  · rw [tG_tB]; simp only [show ¬ k = S.1 by omega, false_and, if_false]
/-- what a descent's result keeps -/
def KpR (m : Nat) (S : Tb) (o : Rp) : Prop := ∀ j S', o = (j, some S') → Kep m S S'
theorem KpR.none {m j : Nat} {S : Tb} : KpR m S (j, none) := fun _ _ e => by simp at e
theorem KpR.some {m j : Nat} {S S' : Tb} (h : Kep m S S') : KpR m S (j, some S') := fun _ _ e => by
  simp only [Prod.mk.injEq, Option.some.injEq] at e; rw [← e.2]; exact h
theorem KpR.ite {m : Nat} {S : Tb} {c : Prop} [Decidable c] {a b : Rp} (h1 : c → KpR m S a) (h2 : ¬ c → KpR m S b) : KpR m S (if c then a else b) := by
  by_cases h : c
  · rw [if_pos h]; exact h1 h
  · rw [if_neg h]; exact h2 h
theorem KpR.trans {m m' : Nat} {S S' : Tb} {o : Rp} (a : Kep m S S') (b : KpR m' S' o) (hm : m ≤ m') : KpR m S o := fun j S'' e => a.trans (b j S'' e) hm
theorem kp_lim {t : Nat → Int32} {i n : Nat} {S : Tb} {m : Nat} (hm : m ≤ n) : KpR m S (pLim t i n S) := by
  unfold pLim
  exact .ite (fun _ => .ite (fun _ => .none) fun _ => .some ((Kep.tF hm (by decide)).trans (Kep.tF hm (by decide)) (Nat.le_refl _))) fun _ => .some (Kep.refl _ _)
theorem kp_sz {t : Nat → Int32} {lim : Int32} {i n : Nat} {S : Tb} {m : Nat} (hm : m ≤ n) : KpR m S (pSz t lim i n S) := by
  unfold pSz
  exact .ite (fun _ => .none) fun _ => .trans (Kep.tF hm (by decide)) (kp_lim hm) (Nat.le_refl _)
/-- a descent that keeps -/
def KpF (rec : Nat → Nat → Int32 → Int32 → Int32 → Tb → Rp) : Prop := ∀ i par own cs inh S, KpR S.1 S (rec i par own cs inh S)
theorem kp_fields {t : Nat → Int32} {rec : Nat → Nat → Int32 → Int32 → Int32 → Tb → Rp} (hr : KpF rec) {R n m : Nat} : ∀ (k i : Nat) (S : Tb), m ≤ S.1 → KpR m S (pFields t rec R n k i S)
  | 0, i, S, _ => .none
  | k + 1, i, S, hm => by
    unfold pFields
    refine .ite (fun _ => .some (Kep.refl _ _)) fun _ => .ite (fun _ => .none) fun _ => .ite (fun _ => .none) fun _ => ?_
    have := hr (i + 2) (n + 1) (t i - 97) (-1) (t i - 97) S
    split
    · exact .none
    · rename_i j S' e
      have q := this j S' e
      exact .ite (fun _ => .none) fun _ => .trans (q.weak hm) (kp_fields hr k (j + 1) S' (by have := q.1; omega)) (Nat.le_refl _)
theorem kp_cases {t : Nat → Int32} {rec : Nat → Nat → Int32 → Int32 → Int32 → Tb → Rp} (hr : KpF rec) {n m : Nat} {inh : Int32} : ∀ (k : Nat) (b : Bool) (i : Nat) (S : Tb), m ≤ S.1 → KpR m S (pCases t rec n inh k b i S)
  | 0, _, i, S, _ => .none
  | k + 1, b, i, S, hm => by
    unfold pCases
    refine .ite (fun _ => .some (Kep.refl _ _)) fun _ => .ite (fun _ => .none) fun _ => .ite (fun _ => .none) fun _ => ?_
    have := hr (i + nd t i + 1) (n + 1) (-1) (fg t i (nd t i)) inh S
    split
    · exact .none
    · rename_i j S' e
      have q := this j S' e
      exact .ite (fun _ => .none) fun _ => .trans (q.weak hm) (kp_cases hr k false (j + 1) S' (by have := q.1; omega)) (Nat.le_refl _)
theorem kp_tail {t : Nat → Int32} {rec : Nat → Nat → Int32 → Int32 → Int32 → Tb → Rp} (hr : KpF rec) {R n i : Nat} {c inh : Int32} {S : Tb} (hn : n ≤ S.1) : KpR n S (pTail t rec R c n inh i S) := by
  unfold pTail
  have k4 : Kep n S (tF S n 4 (t i - 97)) := Kep.tF (Nat.le_refl _) (by decide)
  exact .ite (fun _ => .ite (fun _ => .none) fun _ => .trans k4 (hr _ _ _ _ _ _) hn) fun _ => .ite (fun _ => .ite (fun _ => .none) fun _ => .ite (fun _ => .none) fun _ => .trans k4 (kp_cases hr _ _ _ _ hn) (Nat.le_refl _))
    fun _ => .ite (fun _ => kp_fields hr _ _ _ hn) fun _ => .ite (fun _ => kp_sz (Nat.le_refl _)) fun _ => .ite (fun _ => .some (Kep.refl _ _)) fun _ => kp_sz (Nat.le_refl _)
theorem kp_T {t : Nat → Int32} : ∀ R, KpF (pT t R)
  | 0 => fun _ _ _ _ _ _ => .none
  | R + 1 => fun i par own cs inh S => by
    unfold pT
    exact .ite (fun _ => .trans Kep.tB (kp_tail (kp_T R) (Nat.le_succ _)) (Nat.le_refl _)) fun _ => .none
/-! the frames below -/
/-- open types below: old nodes, none of them sized -/
def Bel (S : Tb) (st : List Fm) : Prop := ∀ f, f ∈ st → f.1 < S.1 ∧ sz (tG S f.1 0) = false
theorem Bel.kp {m : Nat} {S S' : Tb} {st : List Fm} (B : Bel S st) (k : Kep m S S') : Bel S' st := fun f hf => ⟨by have := (B f hf).1; have := k.1; omega, by rw [(k.2.2 _ (B f hf).1).2 0 (Or.inl rfl)]; exact (B f hf).2⟩
theorem fin_kp {m : Nat} {S S' : Tb} (k : Kep m S S') : ∀ {st : List Fm}, Bel S st → fin S' st = fin S st
  | [], _ => rfl
  | (n, s, dg, w) :: r, B => by
    have e := (k.2.2 n (B _ (List.mem_cons_self ..)).1).2 0 (Or.inl rfl)
    unfold fin
    rw [e, fin_kp k (fun f hf => B f (List.mem_cons_of_mem _ hf))]
theorem bel_fin {S : Tb} : ∀ {st : List Fm}, Bel S st → Bel S (fin S st)
  | [], _ => fun _ h => nomatch h
  | (n, s, dg, w) :: r, B => by
    unfold fin
    by_cases c : tG S n 0 = 42 ∨ tG S n 0 = 47
    · rw [if_pos c]; exact bel_fin fun f hf => B f (List.mem_cons_of_mem _ hf)
    · rw [if_neg c]
      intro f hf
      rcases List.mem_cons.mp hf with rfl | hf
      · exact B (n, s, dg, w) (List.mem_cons_self ..)
      · exact B f (List.mem_cons_of_mem _ hf)
theorem fin_nil {S : Tb} : ∀ {st : List Fm}, fin S st = [] ↔ ars S st = true
  | [] => ⟨fun _ => rfl, fun _ => rfl⟩
  | (n, s, dg, w) :: r => by
    unfold fin ars
    rw [List.all_cons, Bool.and_eq_true, decide_eq_true_iff]
    by_cases c : tG S n 0 = 42 ∨ tG S n 0 = 47
    · rw [if_pos c]
      exact ⟨fun h => ⟨c, fin_nil.mp h⟩, fun h => fin_nil.mpr h.2⟩
    · rw [if_neg c]
      exact ⟨fun h => by simp at h, fun h => absurd h.1 c⟩
theorem sgn_2 {S : Tb} {st : List Fm} {c : Int32} (h0 : ¬ S.1 = 0) (B : Bel S st) : sgn (S, st) c = sgn2 (S, st) c := by
  unfold sgn
  rw [if_neg h0]
  match st, B with
  | [], _ => rfl
  | (n, s, dg, w) :: r, B =>
    have := (B _ (List.mem_cons_self ..)).2
    dsimp only
    rw [if_neg (by rw [this]; decide)]
theorem whl_no {S : Tb} {f : Fm} {st : List Fm} (B : Bel S (f :: st)) : whl (S, f :: st) = false := by
  obtain ⟨n, s, dg, w⟩ := f
  unfold whl
  dsimp only
  rw [(B _ (List.mem_cons_self ..)).2]
  simp
section SIM
variable {t : Nat → Int32} {N : Nat}
theorem run_s {i : Nat} {X : Cf} (hi : i < N) : run t (N - i) i X = match sgn X (t i) with | none => (i, none) | some X' => run t (N - (i + 1)) (i + 1) X' := by
  obtain ⟨r, hr⟩ : ∃ r, N - i = r + 1 := ⟨N - i - 1, by omega⟩
  rw [hr, show N - (i + 1) = r by omega]
  rfl
theorem run_go {i : Nat} {X X' : Cf} (hi : i < N) (e : sgn X (t i) = some X') : run t (N - i) i X = run t (N - (i + 1)) (i + 1) X' := by
  rw [run_s hi, e]
theorem run_no {i : Nat} {X : Cf} (hi : i ≤ N) (e : sgn X (t i) = none) (w : whl X = false) : run t (N - i) i X = (i, none) := by
  by_cases c : i < N
  · rw [run_s c, e]
  · have : i = N := by omega
    subst this
    rw [Nat.sub_self]
    unfold run
    rw [w]; rfl
/-- a sized type that is done ends with the next sign, or with the text -/
theorem lazy {S : Tb} {n s dg i : Nat} {w : Int32} {st : List Fm} (hi : i ≤ N) (h0 : ¬ S.1 = 0) (hz : sz (tG S n 0) = true) (B : Bel S st)
    (hs : (s = 1 ∧ ¬ (t i = 60 ∨ t i = 62 ∨ t i = 61)) ∨ (s = 3 ∧ (3 ≤ dg ∨ di (t i) = false))) : run t (N - i) i (S, (n, s, dg, w) :: st) = run t (N - i) i (S, fin S st) := by
  by_cases c : i < N
  · rw [run_s c, run_s c, sgn_2 h0 (bel_fin B)]
    have : sgn (S, (n, s, dg, w) :: st) (t i) = sgn2 (S, fin S st) (t i) := by
      unfold sgn
      rw [if_neg h0]
      dsimp only
      rw [if_pos hz]
      rcases hs with ⟨rfl, hs⟩ | ⟨rfl, hs⟩
      · rw [if_neg (by decide), if_neg (fun q => hs q.2), if_neg (by simp), if_neg (by decide)]
      · rw [if_neg (by decide), if_neg (by simp), if_neg (fun q => ?_), if_neg (by decide)]
        rcases hs with hs | hs
        · omega
        · rw [hs] at q; exact absurd q.2 (by decide)
    rw [this]
  · have : i = N := by omega
    subst this
    rw [Nat.sub_self]
    unfold run
    have : whl (S, (n, s, dg, w) :: st) = whl (S, fin S st) := by
      unfold whl
      dsimp only
      rw [hz]
      have e1 : decide (s = 1 ∨ s = 3) = true := by rcases hs with ⟨rfl, _⟩ | ⟨rfl, _⟩ <;> rfl
      rw [e1]
      cases e : fin S st with
      | nil => rw [fin_nil.mp e]; rfl
      | cons f r =>
        obtain ⟨n', s', d', w'⟩ := f
        dsimp only
        have B' := bel_fin B
        rw [e] at B'
        rw [(B' _ (List.mem_cons_self ..)).2]
        have : ars S st = false := by
          cases q : ars S st with
          | false => rfl
          | true => rw [fin_nil.mpr q] at e; cases e
        rw [this]; rfl
    rw [this]
end SIM
