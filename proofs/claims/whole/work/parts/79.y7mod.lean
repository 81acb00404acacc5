/-! the Model's machine does that pass -/
def lastI : Int32 → List Nat → Int32
  | b, [] => b
  | _, y :: r => lastI (iv y) r
theorem lastI_app : ∀ (pre : List Nat) (b : Int32) (y : Nat), lastI b (pre ++ [y]) = iv y
  | [], _, _ => rfl
  | z :: pre, _, y => lastI_app pre (iv z) y
theorem lk_at {g : Hp} {x : Nat} {l : List Nat} : ∀ (pre : List Nat) (b : Int32), LkM g b (pre ++ x :: l) → hI g 212 x = lastI b pre ∧ hI g 211 x = hdI l
  | [], _, L => ⟨L.1, L.2.1⟩
  | _ :: pre, _, L => lk_at pre _ L.2.2
/-- the part before is of BITS -/
def PB (S : Tb) (pre : List Nat) : Prop := ∃ p0 y, pre = p0 ++ [y] ∧ tG S y 0 = 112
theorem PB_nil {S : Tb} : ¬ PB S [] := fun ⟨p0, y, e, _⟩ => by cases p0 <;> cases e
theorem PB_app {S : Tb} {pre : List Nat} {x : Nat} : PB S (pre ++ [x]) ↔ tG S x 0 = 112 := by
  constructor
  · rintro ⟨p0, y, e, h⟩
    obtain ⟨-, e2⟩ := List.append_inj' e rfl
    cases e2; exact h
  · exact fun h => ⟨pre, x, rfl, h⟩
/-- a unit that goes on in a byte -/
def onM (g : Hp) (x : Nat) : Prop := hI g 202 x = 112 ∧ ¬ hI g 212 x < 0 ∧ hI g 202 (hI g 212 x).toNatClampNeg = 112
theorem on_pb {S : Tb} {g : Hp} {n x : Nat} {pre l : List Nat} (T : TabM g S) (hn : n < S.1) (e : kids S n = pre ++ x :: l) : onM g x ↔ tG S x 0 = 112 ∧ PB S pre := by
  have L := (T.2.2.2.2.2 n hn).2
  have u90 := T.2.2.1
  rw [e] at L
  obtain ⟨e1, -⟩ := lk_at pre _ L
  have xk : x ∈ kids S n := by rw [e]; simp
  have x1 := (kids_mem.mp xk).1
  unfold onM
  rw [T.kd (by omega), e1]
  rcases List.eq_nil_or_concat pre with rfl | ⟨p0, y, rfl⟩
  · constructor
    · exact fun q => absurd (show (-1 : Int32) < 0 by decide) q.2.1
    · exact fun q => absurd q.2 PB_nil
  · have yk : y ∈ kids S n := by rw [e]; simp
    have y1 := (kids_mem.mp yk).1
    rw [List.concat_eq_append, lastI_app, iv_clamp (by omega), T.kd (by omega), PB_app]
    exact ⟨fun q => ⟨q.1, q.2.2⟩, fun q => ⟨q.1, iv_neg (by omega), q.2⟩⟩
section MOD
variable {ω : Type} {d dm : Nat} {S : Tb} {U : Nat → Nat → ω → Int32 × Nat × ω × Int64} {sp : Nat → ω → Int32 × Nat} {Rx Ry Dm : Ps ω → Hp → Prop} {Fl : Int32 → Int32 → Int32 → Hp → Prop} {y1 : Option Value} {KK : Hp → Prop}
/-- what stands while the Model passes -/
def Bm (S : Tb) (s : Ps ω) (g : Hp) : Prop := TabM g S ∧ Sa g S S.1 ∧ hI g 197 41 = 0 ∧ (hI g 197 42 = iv (bfN s.1) ∧ s.1 < 8000) ∧ (∀ q v, s.2.2.1 q = some v → q < S.1 ∧ hL g 222 q = v)
/-- the machine's rows are left alone -/
def Mk (g g' : Hp) : Prop := (hI g' 223 = hI g 223 ∧ hI g' 224 = hI g 224 ∧ hI g' 226 = hI g 226 ∧ hL g' 225 = hL g 225) ∧ hI g' 197 39 = hI g 197 39
theorem Mk.frs {g g' : Hp} (m : Mk g g') (t : Nat) : FrS t g g' := fun i _ => by rw [m.1.1, m.1.2.1, m.1.2.2.1, m.1.2.2.2]; exact ⟨rfl, rfl, rfl, rfl⟩
def FlH (Fl : Int32 → Int32 → Int32 → Hp → Prop) : Prop := (∀ c p m g g', Mch g g' → Fl c p m g → Fl c p m g') ∧ (∀ c p m g, Fl c p m g → (hS g 197).1 = 8 ∧ hI g 197 41 = c ∧ 0 < c ∧ ShM g)
def RsH (Rx Ry Dm : Ps ω → Hp → Prop) (Fl : Int32 → Int32 → Int32 → Hp → Prop) : Prop := (∀ (d : Nat) (s : Ps ω) (g : Hp) (K : Hp → Prop), Ry s g → (∀ g', Rx s g' → Mk g g' → K g') → Ca (d + 1) m_Mo_rest [.ref 197] g (QV K)) ∧ (∀ (d : Nat) (s : Ps ω) (g : Hp) (K : Hp → Prop), Dm s g → (∀ g', Fl 3 s.2.2.2.1 s.2.2.2.2 g' → hI g' 197 39 = hI g 197 39 → K g') → Ca (d + 1) m_Mo_rest [.ref 197] g (QV K)) ∧ (∀ s g, Ry s g ∨ Dm s g → Fl 3 s.2.2.2.1 s.2.2.2.2 (sI g 197 41 3))
def UnM (S : Tb) (U : Nat → Nat → ω → Int32 × Nat × ω × Int64) (Rx : Ps ω → Hp → Prop) (Fl : Int32 → Int32 → Int32 → Hp → Prop) : Prop := ∀ (d k : Nat) (s : Ps ω) (g : Hp) (K : Hp → Prop) (y3 : Option Value), k < S.1 → (sz (tG S k 0) = true ∨ sm (tG S k 0) = true) → Rx s g → (¬ tG S k 0 = 112 → s.1 % 8 = 0) → ((pU S U k s).1 = 0 → ∀ g', Rx (pU S U k s).2 g' → Mk g g' → K g') → (¬ (pU S U k s).1 = 0 → ∀ g', Fl ((pU S U k s).1 + 1) (pU S U k s).2.2.2.2.1 (pU S U k s).2.2.2.2.2 g' → K g') → Wp (d + 13) m_Mo_unit 52 [some (.ref 197), some (.int (iv k)), some (.int (tG S k 0)), y3] [] g (QV K)
def MH (S : Tb) (U : Nat → Nat → ω → Int32 × Nat × ω × Int64) (sp : Nat → ω → Int32 × Nat) (Rx Ry Dm : Ps ω → Hp → Prop) (Fl : Int32 → Int32 → Int32 → Hp → Prop) : Prop :=
  ((∀ s g, Rx s g → Bm S s g) ∧ (∀ s g, Ry s g → Bm S s g ∧ s.1 % 8 = 0) ∧ (∀ s g, Dm s g → Bm S s g)) ∧
  ((∀ s g g', Mch g g' → Rx s g → Rx s g') ∧ (∀ s g g', Mch g g' → Ry s g → Ry s g') ∧ (∀ s g g', Mch g g' → Dm s g → Dm s g')) ∧
  ((∀ s g, Rx s g → s.1 % 8 = 0 → Ry s g) ∧ (∀ s g, Rx s g → ((spP sp s).1 = 0 → Ry (spP sp s).2 g) ∧ (¬ (spP sp s).1 = 0 → (spP sp s).1 = 2 ∧ Dm s g))) ∧
  RsH Rx Ry Dm Fl ∧ UnM S U Rx Fl ∧ FlH Fl
/-- the loop's head -/
def LPm (dm : Nat) (y1 : Option Value) (KK : Hp → Prop) (g : Hp) : Prop := Wp (dm + 16) m_Mo_pass 50 [some (.ref 197), y1] [] g (QV KK)
theorem lp_step {g : Hp} {t : Nat} (M : (hS g 197).1 = 8) (hf : hI g 197 41 = 0) (ht : hI g 197 39 = iv (t + 1)) (h8 : t < 8) (k : Ca (dm + 15) m_Mo_goOn [.ref 197] g (QV (LPm dm y1 KK))) : LPm dm y1 KK g := by
  refine w_Mo_pass_50 ⟨M, ?_⟩
  rw [ht, if_pos (show (0 : Int32) < iv (t + 1) from (iv_lt (a := 0) (b := t + 1) (by omega) (by omega)).mpr (by omega)), if_pos hf]
  exact k
/-- a unit, or the rest of a byte before it -/
theorem m_unit {g : Hp} {n : Nat} {K : Hp → Prop} (T : TabM g S) (hn : n < S.1) (hb : tG S n 0 = 112 → ∃ p, p < S.1 ∧ n ∈ kids S p) (k1 : onM g n → ∀ y, Wp (d + 1) m_Mo_unit 52 [some (.ref 197), some (.int (iv n)), some (.int (tG S n 0)), y] [] g (QV K)) (k0 : ¬ onM g n → Ca d m_Mo_rest [.ref 197] g (QV fun g' => ∀ y, Wp (d + 1) m_Mo_unit 52 [some (.ref 197), some (.int (iv n)), some (.int (tG S n 0)), y] [] g' (QV K))) : Ca (d + 1) m_Mo_unit [.ref 197, .int (iv n)] g (QV K) := by
  have M := T.1
  have u90 := T.2.2.1
  have an : ainr (iv n) 90 = true := ainr_iv (by omega) (by omega)
  have cn : (iv n).toNatClampNeg = n := iv_clamp (by omega)
  have kd : hI g 202 n = tG S n 0 := T.kd (by omega)
  have r0 : ¬ onM g n → ∀ y, Ca d m_Mo_rest [.ref 197] g (QV fun g' => Wp (d + 1) m_Mo_unit 52 [some (.ref 197), some (.int (iv n)), some (.int (tG S n 0)), y] [] g' (QV K)) := fun q y => Wp.imp (k0 q) fun r h' ⟨e, z⟩ => ⟨e, z y⟩
  refine w_Mo_unit ?_
  simp only [hR_sI, hS_sI, M.o, M.r12, M.s202, M.r22, M.s212, true_and, an, cn, forall_eq, kd]
  by_cases c : tG S n 0 = 112
  · rw [if_pos c]
    obtain ⟨p, p1, p2⟩ := hb c
    obtain ⟨pre, l, e⟩ := List.append_of_mem p2
    have L := (T.2.2.2.2.2 p p1).2
    rw [e] at L
    obtain ⟨e1, -⟩ := lk_at pre _ L
    by_cases q : hI g 212 n < 0
    · have r := r0 (fun z => z.2.1 q) (some (.int 0))
      rw [c] at r ⊢
      rw [if_pos q, if_pos trivial]; exact r
    · rw [if_neg q]
      rcases List.eq_nil_or_concat pre with rfl | ⟨p0, y, rfl⟩
      · rw [e1] at q; exact absurd (show (-1 : Int32) < 0 by decide) q
      · have yk : y ∈ kids S p := by rw [e]; simp
        have yl := (kids_mem.mp yk).1
        rw [List.concat_eq_append, lastI_app] at e1
        rw [e1]
        refine ⟨ainr_iv (by omega) (by omega), ?_⟩
        by_cases z : hI g 202 (iv y).toNatClampNeg = 112
        · have r := k1 ⟨by rw [kd]; exact c, q, by rw [e1]; exact z⟩ (some (.int 1))
          rw [if_pos z, if_neg (by decide)]
          exact r
        · have r := r0 (fun w => z (by rw [← e1]; exact w.2.2)) (some (.int 0))
          rw [if_neg z, if_pos trivial]
          exact r
  · rw [if_neg c, if_pos trivial]
    exact r0 (fun z => c (by rw [← kd]; exact z.1)) _
/-- when the spare bits are wrong, the Model comes to no unit any more -/
def RecD (dm : Nat) (S : Tb) (Dm : Ps ω → Hp → Prop) (Fl : Int32 → Int32 → Int32 → Hp → Prop) (y1 : Option Value) (KK : Hp → Prop) (f : Nat) : Prop := ∀ (D n : Nat) (s : Ps ω) (g : Hp) (j : Nat), (D + 1) + f = 6 → n < S.1 → chn S.2.2 (D + 1) n → Av S n s → ¬ onM g n → hI g 197 39 = iv D → Dm s g → (∀ g', Fl 3 s.2.2.2.1 s.2.2.2.2 g' → LPm dm y1 KK g') → ((me S n).1 = 0 → ¬ (sz (tG S n 0) = true ∨ sm (tG S n 0) = true) → ∀ g', Dm s g' → FrS D g g' → hI g' 197 39 = iv D → LPm dm y1 KK g') → Ca (j + 14) m_Mo_enter [.ref 197, .int (iv n)] g (QV (LPm dm y1 KK))
theorem d_flds (T : TW S) (H : MH S U sp Rx Ry Dm Fl) {f D n : Nat} (hD : D + f = 4) (hn : n < S.1) (h123 : tG S n 0 = 123) (hc : chn S.2.2 (D + 1) n) (R : RecD dm S Dm Fl y1 KK f) {s : Ps ω} (A : Av S n s) (kE : ∀ g', Fl 3 s.2.2.2.1 s.2.2.2.2 g' → LPm dm y1 KK g') {v : Int64} {p : Int32} : ∀ (l pre : List Nat) (g : Hp), kids S n = pre ++ l → (∀ y r, l = y :: r → ¬ (tG S y 0 = 112 ∧ PB S pre)) → Dm s g → (∀ m, m ∈ pre → sz (tG S m 0) = true → Rg S s m) → hI g 197 39 = iv (D + 1) → Frm g D n (hdI l) v p → LPm dm y1 KK g
  | [], pre, g, e, npb, dmg, hp, ht, F => by
    obtain ⟨T1, A1, f0, b4, b5⟩ := H.1.2.2 s g dmg
    refine lp_step T1.1.o f0 ht (by omega) ?_
    refine m_on T1 hn (by omega) ht F (fun _ _ => ?_) (fun _ k hk e => ?_) (fun z => ?_) (fun z => ?_) (fun z => ?_) (fun z => ?_) (fun z => ?_) (fun z => ?_) (fun z => ?_) (Or.inl h123) (Or.inl (by show (-1 : Int32) < 0; decide)) f0
    · refine H.2.2.2.1.2.1 (dm + 13) s g _ dmg fun g' fl hd => ?_
      refine ⟨(H.2.2.2.2.2.2 _ _ _ _ fl).1, ?_⟩
      rintro _ rfl
      exact kE _ (H.2.2.2.2.2.1 _ _ _ _ _ (Mch.sI (Or.inr (Or.inr (Or.inr ⟨rfl, rfl⟩)))) fl)
    · exfalso
      have : (-1 : Int32) = iv k := e
      have l : (-1 : Int32) < 0 := by decide
      rw [this] at l
      exact iv_neg (by have := T.2.1.2; omega) l
    all_goals (rw [h123] at z; exact absurd z (by decide))
  | x :: l, pre, g, e, npb, dmg, hp, ht, F => by
    have xk : x ∈ kids S n := by rw [e]; simp
    have x1 := (kids_mem.mp xk).1
    have u90 := T.2.1.2
    have e' : kids S n = (pre ++ [x]) ++ l := by rw [e]; simp
    obtain ⟨T1, A1, f0, b4, b5⟩ := H.1.2.2 s g dmg
    have srt : (kids S n).Pairwise (· < ·) := kids_sorted S n
    refine lp_step T1.1.o f0 ht (by omega) ?_
    refine m_on T1 hn (by omega) ht F (fun _ q => ?_) (fun _ k hk e2 => ?_) (fun z => ?_) (fun z => ?_) (fun z => ?_) (fun z => ?_) (fun z => ?_) (fun z => ?_) (fun z => ?_) (Or.inl h123) (Or.inr ⟨x, x1, rfl⟩) f0
    · exact absurd q (iv_neg (by omega))
    · have : k = x := by
        have e2 : iv x = iv k := e2
        exact ((iv_inj (by omega) (by omega)).mp e2).symm
      subst this
      have L := (T1.2.2.2.2.2 n hn).2
      rw [e] at L
      rw [(lk_at pre _ L).2]
      have mc : Mch g (sI g 224 D (hdI l)) := Mch.sI (Or.inr (Or.inl rfl))
      have Ax : Av S k s := by
        intro m hm hz
        rcases (bf_kid T.1 xk).mp hm with ⟨-, m1, m2⟩ | q
        · rw [e] at m1 srt
          have : m ∈ pre := by
            rcases List.mem_append.mp m1 with z | z
            · exact z
            · exfalso
              rw [List.pairwise_append] at srt
              rcases List.mem_cons.mp z with z | z
              · omega
              · have := (List.pairwise_cons.mp srt.2.1).1 m z; omega
          exact hp m this hz
        · exact A m q hz
      refine R (D + 1) k s _ (dm + 0) (by omega) x1 (chn_kid xk hc) Ax (fun q => npb k l rfl ((on_pb (mc.tab T1) hn e).mp q)) (by rw [hI_o (by omega)]; exact ht) (H.2.1.2.2 _ _ _ mc dmg) kE fun _ nu g' dm' fr' ht' => ?_
      refine d_flds T H hD hn h123 hc R A kE (v := v) (p := p) l (pre ++ [k]) g' e' (fun y r ey q => nu (Or.inl (by rw [PB_app.mp q.2]; rfl))) dm' (fun m hm hz => ?_) ht' ?_
      · rcases List.mem_append.mp hm with q | q
        · exact hp m q hz
        · have : m = k := by simpa using q
          rw [this] at hz; exact absurd (Or.inl hz) nu
      · refine fr'.frm (by omega) ⟨?_, hI_s, F.2.2.1, ?_⟩
        · rw [hI_o (by omega)]; exact F.1
        · rw [hI_o (by omega)]; exact F.2.2.2
    all_goals (rw [h123] at z; exact absurd z (by decide))
end MOD
