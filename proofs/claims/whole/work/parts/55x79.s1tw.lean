/-! what a table of a text has -/
def GdK (S : Tb) (k : Nat) : Prop := (sz (tG S k 0) = true ∨ sm (tG S k 0) = true ∨ tG S k 0 = 123 ∨ dp (tG S k 0) = true) ∧
  (sz (tG S k 0) = true → (∃ e, 1 ≤ e ∧ e ≤ (if tG S k 0 = 112 then 7 else 4) ∧ tG S k 1 = iv e) ∧ (tG S k 2 = 0 ∨ ((tG S k 2 = 60 ∨ tG S k 2 = 62 ∨ tG S k 2 = 61) ∧ ∃ v, v < 1000 ∧ tG S k 3 = iv v))) ∧
  (dp (tG S k 0) = true → ∃ x, x < S.1 ∧ S.2.2 x = k + 1)
def GdP (S : Tb) (k : Nat) : Prop := (S.2.2 k = 0 → tG S k 5 = -1 ∧ tG S k 7 = -1) ∧ (∀ p, S.2.2 k = p + 1 → p < k ∧ (tG S p 0 = 123 ∨ dp (tG S p 0) = true) ∧ (tG S p 0 = 123 → tG S k 5 = tG S k 7 ∧ ¬ tG S k 5 < 0) ∧ (¬ tG S p 0 = 123 → tG S k 5 = -1 ∧ tG S k 7 = tG S p 7) ∧ (tG S p 0 = 63 → ∃ v, v < 1000 ∧ tG S k 6 = iv v))
def Gdn (S : Tb) (k : Nat) : Prop := GdK S k ∧ GdP S k
theorem Gdn.mono {m : Nat} {S S' : Tb} {k : Nat} (G : Gdn S k) (K : Kep m S S') (hm : k < m) (hk : k < S.1) : Gdn S' k := by
  obtain ⟨⟨g1, g2, g3⟩, g4, g5⟩ := G
  have e0 : tG S' k 0 = tG S k 0 := K.2.1 k hm 0
  obtain ⟨p1, p2⟩ := K.2.2 k hk
  unfold Gdn GdK GdP
  rw [e0, K.2.1 k hm 1, K.2.1 k hm 2, K.2.1 k hm 3, p2 5 (Or.inr (by decide)), p2 7 (Or.inr (by decide)), p2 6 (Or.inr (by decide)), p1]
  refine ⟨⟨g1, g2, fun q => ?_⟩, g4, fun p q => ?_⟩
  · obtain ⟨x, x1, x2⟩ := g3 q
    exact ⟨x, by have := K.1; omega, by rw [(K.2.2 x x1).1]; exact x2⟩
  · have := g5 p q
    have pl : p < S.1 := by have := this.1; omega
    rw [(K.2.2 p pl).2 0 (Or.inl rfl), (K.2.2 p pl).2 7 (Or.inr (by decide))]
    exact this
theorem GdP.mono {m : Nat} {S S' : Tb} {k : Nat} (G : GdP S k) (K : Kep m S S') (hk : k < S.1) : GdP S' k := by
  obtain ⟨g4, g5⟩ := G
  obtain ⟨p1, p2⟩ := K.2.2 k hk
  unfold GdP
  rw [p2 5 (Or.inr (by decide)), p2 7 (Or.inr (by decide)), p2 6 (Or.inr (by decide)), p1]
  refine ⟨g4, fun p q => ?_⟩
  have := g5 p q
  have pl : p < S.1 := by have := this.1; omega
  rw [(K.2.2 p pl).2 0 (Or.inl rfl), (K.2.2 p pl).2 7 (Or.inr (by decide))]
  exact this
/-- what a descent is told of the node around -/
def Ctx (S : Tb) (par : Nat) (own cs inh : Int32) : Prop := (par = 0 → own = -1 ∧ inh = -1) ∧ (∀ p, par = p + 1 → p < S.1 ∧ (tG S p 0 = 123 ∨ dp (tG S p 0) = true) ∧ (tG S p 0 = 123 → own = inh ∧ ¬ own < 0) ∧ (¬ tG S p 0 = 123 → own = -1 ∧ inh = tG S p 7) ∧ (tG S p 0 = 63 → ∃ v, v < 1000 ∧ cs = iv v))
def GdR (n : Nat) (o : Rp) : Prop := ∀ j S', o = (j, some S') → ∀ k, n ≤ k → k < S'.1 → Gdn S' k
def GdF (rec : Nat → Nat → Int32 → Int32 → Int32 → Tb → Rp) : Prop := ∀ i par own cs inh S, Ctx S par own cs inh → GdR S.1 (rec i par own cs inh S)
theorem GdR.none {n j : Nat} : GdR n (j, none) := fun _ _ e => by simp at e
theorem GdR.some {n j : Nat} {S' : Tb} (h : ∀ k, n ≤ k → k < S'.1 → Gdn S' k) : GdR n (j, some S') := fun _ _ e => by
  simp only [Prod.mk.injEq, Option.some.injEq] at e; rw [← e.2]; exact h
theorem GdR.ite {n : Nat} {c : Prop} [Decidable c] {a b : Rp} (h1 : c → GdR n a) (h2 : ¬ c → GdR n b) : GdR n (if c then a else b) := by
  by_cases h : c
  · rw [if_pos h]; exact h1 h
  · rw [if_neg h]; exact h2 h
theorem nm_num : ∀ e, e < 256 → nm (iv e) = true → ¬ iv e - 97 < 0 := by decide +kernel
theorem w7_num : ∀ e, e < 256 → ¬ iv e - 48 < 1 → ¬ 7 < iv e - 48 → 49 ≤ e ∧ e ≤ 55 := by decide +kernel
theorem w4_num : ∀ e, e < 256 → ¬ iv e - 48 < 1 → ¬ 4 < iv e - 48 → 49 ≤ e ∧ e ≤ 52 := by decide +kernel
theorem nd_le (t : Nat → Int32) (i : Nat) : nd t i ≤ 3 ∧ ∀ j, j < nd t i → di (t (i + j)) = true := by
  by_cases h : nd t i = 0
  · rw [h]; exact ⟨by decide, fun j hj => absurd hj (Nat.not_lt_zero _)⟩
  · rcases nd_cases h with ⟨a1, e, a2⟩ | ⟨a1, e, a2, a3⟩ | ⟨a1, e, a2, a3⟩
    · rw [e]; exact ⟨by decide, fun j hj => by match j, hj with | 0, _ => exact a1⟩
    · rw [e]; exact ⟨by decide, fun j hj => by match j, hj with | 0, _ => exact a1 | 1, _ => exact a2⟩
    · rw [e]; exact ⟨by decide, fun j hj => by match j, hj with | 0, _ => exact a1 | 1, _ => exact a2 | 2, _ => exact a3⟩
theorem fg_le {t : Nat → Int32} (sg : ∀ i, Sgn (t i)) (i : Nat) : ∃ v, v < 1000 ∧ fg t i (nd t i) = iv v := by
  obtain ⟨h1, h2⟩ := nd_le t i
  obtain ⟨v, h3, h4, -⟩ := fg_num (i := i) sg (nd t i) h1 h2
  have : 10 ^ nd t i ≤ 10 ^ 3 := Nat.pow_le_pow_right (by decide) h1
  have : (10 : Nat) ^ 3 = 1000 := rfl
  exact ⟨v, by omega, h4⟩
theorem gd_sz {t : Nat → Int32} (sg : ∀ i, Sgn (t i)) {lim : Int32} {i n : Nat} {S : Tb} (hn : S.1 = n + 1) (hz : sz (tG S n 0) = true) (hl : lim = if tG S n 0 = 112 then 7 else 4) (h2 : tG S n 2 = 0) (P : GdP S n) : GdR n (pSz t lim i n S) := by
  unfold pSz
  refine .ite (fun _ => .none) fun hc => ?_
  have hw : ∃ e, 1 ≤ e ∧ e ≤ (if tG S n 0 = 112 then 7 else 4) ∧ t i - 48 = iv e := by
    obtain ⟨x, hx, e⟩ := sg i
    rw [e] at hc ⊢
    have c1 : ¬ iv x - 48 < 1 := fun q => hc (Or.inl q)
    have c2 : ¬ lim < iv x - 48 := fun q => hc (Or.inr q)
    by_cases z : tG S n 0 = 112
    · rw [if_pos z] at hl ⊢
      rw [hl] at c2
      obtain ⟨a, b⟩ := w7_num x hx c1 c2
      exact ⟨x - 48, by omega, by omega, iv_sub (b := 48) (by omega)⟩
    · rw [if_neg z] at hl ⊢
      rw [hl] at c2
      obtain ⟨a, b⟩ := w4_num x hx c1 c2
      exact ⟨x - 48, by omega, by omega, iv_sub (b := 48) (by omega)⟩
  have dpf : dp (tG S n 0) = true → False := fun q => by
    unfold dp at q
    simp only [Bool.or_eq_true, decide_eq_true_iff] at q
    rcases q with (q | q) | q <;> rw [q] at hz <;> cases hz
  have fin : ∀ S', S'.1 = n + 1 → S'.2.2 = S.2.2 → (∀ k j, j = 0 ∨ 5 ≤ j → tG S' k j = tG S k j) → tG S' n 1 = t i - 48 → (tG S' n 2 = 0 ∨ ((tG S' n 2 = 60 ∨ tG S' n 2 = 62 ∨ tG S' n 2 = 61) ∧ ∃ v, v < 1000 ∧ tG S' n 3 = iv v)) → ∀ k, n ≤ k → k < S'.1 → Gdn S' k := by
    intro S' e1 e2 e3 e4 e5 k k1 k2
    have : k = n := by omega
    subst this
    refine ⟨⟨?_, fun _ => ⟨?_, e5⟩, fun q => ?_⟩, ?_⟩
    · rw [e3 _ _ (Or.inl rfl)]; exact Or.inl hz
    · rw [e3 _ _ (Or.inl rfl), e4]; exact hw
    · rw [e3 _ _ (Or.inl rfl)] at q; exact (dpf q).elim
    · unfold GdP
      rw [e2, e3 _ 5 (Or.inr (by decide)), e3 _ 7 (Or.inr (by decide)), e3 _ 6 (Or.inr (by decide))]
      refine ⟨P.1, fun p q => ?_⟩
      rw [e3 p 0 (Or.inl rfl), e3 p 7 (Or.inr (by decide))]
      exact P.2 p q
  unfold pLim
  refine .ite (fun hs => .ite (fun _ => .none) fun hm => .some (fin _ hn rfl (fun k j hj => ?_) ?_ (Or.inr ⟨?_, ?_⟩))) fun _ => .some (fin _ hn rfl (fun k j hj => ?_) ?_ (Or.inl ?_))
  · rw [tG_tF, if_neg (by omega), tG_tF, if_neg (by omega), tG_tF, if_neg (by omega)]
  · rw [tG_tF, if_neg (by omega), tG_tF, if_neg (by omega), tG_tF, if_pos ⟨rfl, rfl⟩]
  · rw [tG_tF, if_neg (by omega), tG_tF, if_pos ⟨rfl, rfl⟩]; exact hs
  · rw [tG_tF, if_pos ⟨rfl, rfl⟩]; exact fg_le sg _
  · rw [tG_tF, if_neg (by omega)]
  · rw [tG_tF, if_pos ⟨rfl, rfl⟩]
  · rw [tG_tF, if_neg (by omega)]; exact h2
section GD
variable {t : Nat → Int32} {rec : Nat → Nat → Int32 → Int32 → Int32 → Tb → Rp}
theorem gd_fields (sg : ∀ i, Sgn (t i)) (hr : GdF rec) (hk : KpF rec) {R n : Nat} : ∀ (k i : Nat) (S : Tb), n < S.1 → tG S n 0 = 123 → (∀ k, n + 1 ≤ k → k < S.1 → Gdn S k) → GdR (n + 1) (pFields t rec R n k i S)
  | 0, i, S, _, _, _ => .none
  | k + 1, i, S, hn, hc, G => by
    unfold pFields
    refine .ite (fun _ => .some G) fun _ => .ite (fun _ => .none) fun h2 => .ite (fun _ => .none) fun _ => ?_
    have hnm : nm (t i) = true := bt fun q => h2 (Or.inr q)
    have ng : ¬ t i - 97 < 0 := by obtain ⟨x, hx, e⟩ := sg i; rw [e] at hnm ⊢; exact nm_num x hx hnm
    have q := hr (i + 2) (n + 1) (t i - 97) (-1) (t i - 97) S ⟨fun e => (by cases e), fun p e => by
      have : p = n := by omega
      subst this
      exact ⟨hn, Or.inl hc, fun _ => ⟨rfl, ng⟩, fun z => absurd hc z, fun z => by rw [hc] at z; exact absurd z (by decide)⟩⟩
    have K := hk (i + 2) (n + 1) (t i - 97) (-1) (t i - 97) S
    split
    · exact .none
    · rename_i j S' e
      have K' := K j S' e
      refine .ite (fun _ => .none) fun _ => gd_fields sg hr hk k (j + 1) S' (by have := K'.1; omega) (by rw [(K'.2.2 n hn).2 0 (Or.inl rfl)]; exact hc) fun x x1 x2 => ?_
      by_cases z : x < S.1
      · exact (G x x1 z).mono K' z z
      · exact q j S' e x (by omega) x2
theorem gd_cases (sg : ∀ i, Sgn (t i)) (hr : GdF rec) (hk : KpF rec) (hch : ChF rec) {n : Nat} {inh : Int32} : ∀ (k : Nat) (b : Bool) (i : Nat) (S : Tb), n < S.1 → tG S n 0 = 63 → tG S n 7 = inh → (∀ k, n + 1 ≤ k → k < S.1 → Gdn S k) → (b = false → ∃ x, x < S.1 ∧ S.2.2 x = n + 1) → ∀ j S', pCases t rec n inh k b i S = (j, some S') → (∀ k, n + 1 ≤ k → k < S'.1 → Gdn S' k) ∧ ∃ x, x < S'.1 ∧ S'.2.2 x = n + 1
  | 0, _, i, S, _, _, _, _, _ => fun j S' e => by cases e
  | k + 1, b, i, S, hn, hc, h7, G, hb => fun j S' e => by
    unfold pCases at e
    split at e
    · rename_i hc2
      simp only [Prod.mk.injEq, Option.some.injEq] at e
      rw [← e.2]; exact ⟨G, hb hc2.1⟩
    · split at e
      · cases e
      · split at e
        · cases e
        · have q := hr (i + nd t i + 1) (n + 1) (-1) (fg t i (nd t i)) inh S ⟨fun e => (by cases e), fun p e => by
            have : p = n := by omega
            subst this
            exact ⟨hn, Or.inr (by rw [hc]; rfl), fun z => by rw [hc] at z; exact absurd z (by decide), fun _ => ⟨rfl, h7.symm⟩, fun _ => fg_le sg i⟩⟩
          have K := hk (i + nd t i + 1) (n + 1) (-1) (fg t i (nd t i)) inh S
          have C := hch (i + nd t i + 1) (n + 1) (-1) (fg t i (nd t i)) inh S
          split at e
          · cases e
          · rename_i j1 S1 e1
            have K' := K j1 S1 e1
            obtain ⟨c1, c2⟩ := C j1 S1 e1
            split at e
            · cases e
            · refine gd_cases sg hr hk hch k false (j1 + 1) S1 (by omega) (by rw [(K'.2.2 n hn).2 0 (Or.inl rfl)]; exact hc) (by rw [(K'.2.2 n hn).2 7 (Or.inr (by decide))]; exact h7) (fun x x1 x2 => ?_) (fun _ => ⟨S.1, c1, c2⟩) j S' e
              by_cases z : x < S.1
              · exact (G x x1 z).mono K' z z
              · exact q j1 S1 e1 x (by omega) x2
theorem gd_T (sg : ∀ i, Sgn (t i)) : ∀ R, GdF (pT t R)
  | 0 => fun _ _ _ _ _ _ _ => .none
  | R + 1 => fun i par own cs inh S cx => by
    unfold pT
    refine .ite (fun g => ?_) fun _ => .none
    have hn : S.1 < (tB S (t i) own cs inh par).1 := Nat.lt_succ_self _
    have hP : (tB S (t i) own cs inh par).2.2 S.1 = par := if_pos rfl
    have f0 : tG (tB S (t i) own cs inh par) S.1 0 = t i := by rw [tG_tB]; simp
    have f2 : tG (tB S (t i) own cs inh par) S.1 2 = 0 := by rw [tG_tB]; simp
    have f7 : tG (tB S (t i) own cs inh par) S.1 7 = inh := by rw [tG_tB]; simp
    have gp : GdP (tB S (t i) own cs inh par) S.1 := by
      unfold GdP
      rw [hP, show tG (tB S (t i) own cs inh par) S.1 5 = own by rw [tG_tB]; simp, show tG (tB S (t i) own cs inh par) S.1 6 = cs by rw [tG_tB]; simp, f7]
      refine ⟨cx.1, fun p e => ?_⟩
      obtain ⟨c1, c2, c3, c4, c5⟩ := cx.2 p e
      have o : ∀ j, tG (tB S (t i) own cs inh par) p j = tG S p j := fun j => by rw [tG_tB]; simp [show ¬ p = S.1 by omega]
      rw [o 0, o 7]
      exact ⟨c1, c2, c3, c4, c5⟩
    -- the node itself, when its tail is passed
    have own0 : ∀ S', Kep S.1 (tB S (t i) own cs inh par) S' → (dp (t i) = true → ∃ x, x < S'.1 ∧ S'.2.2 x = S.1 + 1) → ¬ sz (t i) = true → (sm (t i) = true ∨ t i = 123 ∨ dp (t i) = true) → Gdn S' S.1 := by
      intro S' K h1 h2 h3
      have e0 : tG S' S.1 0 = t i := by rw [(K.2.2 S.1 hn).2 0 (Or.inl rfl)]; exact f0
      refine ⟨⟨?_, fun z => ?_, fun z => ?_⟩, gp.mono K hn⟩
      · rw [e0]; exact Or.inr h3
      · rw [e0] at z; exact absurd z h2
      · rw [e0] at z; exact h1 z
    have both : ∀ {o : Rp}, KpR S.1 (tB S (t i) own cs inh par) o → GdR (S.1 + 1) o → (∀ j S', o = (j, some S') → Gdn S' S.1) → GdR S.1 o := fun _ a c j S' e k k1 k2 => by
      by_cases z : k = S.1
      · rw [z]; exact c j S' e
      · exact a j S' e k (by omega) k2
    have K := kp_tail (t := t) (rec := pT t R) (kp_T R) (R := R) (n := S.1) (i := i + 1) (c := t i) (inh := inh) (S := tB S (t i) own cs inh par) (Nat.le_succ _)
    revert K
    unfold pTail
    intro K
    by_cases c1 : t i = 42 ∨ t i = 47
    · rw [if_pos c1] at K ⊢
      have z0 : ¬ sz (t i) = true := by rcases c1 with q | q <;> rw [q] <;> decide
      have d0 : dp (t i) = true := by rcases c1 with q | q <;> rw [q] <;> rfl
      refine both K (.ite (fun _ => .none) fun _ => ?_) fun j S' e => ?_
      · refine gd_T sg R (i + 1 + 1) (S.1 + 1) (-1) (-1) inh (tF (tB S (t i) own cs inh par) S.1 4 (t (i + 1) - 97)) ⟨fun e => (by cases e), fun p e => ?_⟩
        have : p = S.1 := by omega
        subst this
        rw [tG_k (by decide), tG_7 (by decide), f0, f7]
        exact ⟨hn, Or.inr d0, fun q => by rcases c1 with z | z <;> rw [z] at q <;> exact absurd q (by decide), fun _ => ⟨rfl, rfl⟩, fun q => by rcases c1 with z | z <;> rw [z] at q <;> exact absurd q (by decide)⟩
      · have K' := K j S' e
        split at e
        · cases e
        · obtain ⟨q1, q2⟩ := ch_T R _ _ _ _ _ _ _ _ e
          exact own0 S' K' (fun _ => ⟨_, q1, q2⟩) z0 (Or.inr (Or.inr d0))
    rw [if_neg c1] at K ⊢
    by_cases c2 : t i = 63
    · rw [if_pos c2] at K ⊢
      have G := gd_cases sg (gd_T sg R) (kp_T R) (ch_T R) (n := S.1) (inh := inh) 90 true (i + 1 + 2) (tF (tB S (t i) own cs inh par) S.1 4 (t (i + 1) - 97)) hn (by rw [tG_k (by decide), f0]; exact c2) (by rw [tG_7 (by decide)]; exact f7) (fun k k1 k2 => by have k2 : k < S.1 + 1 := k2; omega) (fun e => by cases e)
      refine both K (.ite (fun _ => .none) fun _ => .ite (fun _ => .none) fun _ => fun j S' e => (G j S' e).1) fun j S' e => ?_
      have K' := K j S' e
      split at e
      · cases e
      · split at e
        · cases e
        · exact own0 S' K' (fun _ => (G j S' e).2) (by rw [c2]; decide) (Or.inr (Or.inr (by rw [c2]; rfl)))
    rw [if_neg c2] at K ⊢
    by_cases c3 : t i = 123
    · rw [if_pos c3] at K ⊢
      exact both K (gd_fields sg (gd_T sg R) (kp_T R) 90 (i + 1) (tB S (t i) own cs inh par) hn (by rw [f0]; exact c3) fun k k1 k2 => by have k2 : k < S.1 + 1 := k2; omega) fun j S' e => own0 S' (K j S' e) (fun z => by rw [c3] at z; cases z) (by rw [c3]; decide) (Or.inr (Or.inl c3))
    rw [if_neg c3] at K ⊢
    by_cases c4 : t i = 112
    · rw [if_pos c4]
      exact gd_sz sg rfl (by rw [f0, c4]; rfl) (by rw [f0, c4]; rfl) f2 gp
    rw [if_neg c4] at K ⊢
    by_cases c5 : sm (t i) = true
    · rw [if_pos c5] at K ⊢
      refine both K (.some fun k k1 k2 => by have k2 : k < S.1 + 1 := k2; omega) fun j S' e => own0 S' (K j S' e) (fun z => ?_) (fun z => ?_) (Or.inl c5)
      · unfold dp at z
        rw [decide_eq_false (fun q => c1 (Or.inl q)), decide_eq_false (fun q => c1 (Or.inr q)), decide_eq_false c2] at z; cases z
      · unfold sz at z; unfold sm at c5
        simp only [Bool.or_eq_true, decide_eq_true_iff] at z c5
        rcases z with ((z | z) | z) | z <;> rw [z] at c5 <;> revert c5 <;> decide
    rw [if_neg c5]
    have hz : sz (t i) = true := by
      simp only [Bool.or_eq_true, Bool.and_eq_true, decide_eq_true_iff] at g
      rcases g with ((g | g) | g) | g
      · exact g
      · exact absurd g c5
      · exact absurd g c3
      · have g := g.1
        unfold dp at g
        rw [decide_eq_false (fun q => c1 (Or.inl q)), decide_eq_false (fun q => c1 (Or.inr q)), decide_eq_false c2] at g; cases g
    exact gd_sz sg rfl (by rw [f0]; exact hz) (by rw [f0, if_neg c4]) f2 gp
end GD
/-- a table of a whole text -/
def TW (S : Tb) : Prop := WfP S ∧ (0 < S.1 ∧ S.1 ≤ 90) ∧ (∀ k, k < S.1 → Gdn S k) ∧ S.2.2 0 = 0 ∧ (∀ k, 0 < k → k < S.1 → ¬ S.2.2 k = 0)
theorem tw_top {t : Nat → Int32} (sg : ∀ i, Sgn (t i)) {F : Nat → Nat → Int32} {G : Nat → Nat} {j : Nat} {S : Tb} (e : pT t 5 0 0 (-1) (-1) (-1) (0, F, G) = (j, some S)) (hj : j ≤ 90) : TW S := by
  obtain ⟨q1, q2⟩ := ch_T _ _ _ _ _ _ _ _ _ e
  obtain ⟨u1, u2⟩ := up_T _ _ _ _ _ _ _ _ _ e
  have w := wf_T 5 0 0 (-1) (-1) (-1) (0, F, G) (fun k hk => absurd hk (Nat.not_lt_zero _)) (Nat.le_refl _) _ _ e
  have g := gd_T sg 5 0 0 (-1) (-1) (-1) (0, F, G) ⟨fun _ => ⟨rfl, rfl⟩, fun p q => (by cases q)⟩ _ _ e
  exact ⟨w, ⟨q1, by have := u1 (Nat.le_refl _); omega⟩, fun k hk => g k (Nat.zero_le _) hk, q2, fun k k1 k2 q => by have : 0 + 1 ≤ S.2.2 k := u2 k k1 k2; omega⟩
