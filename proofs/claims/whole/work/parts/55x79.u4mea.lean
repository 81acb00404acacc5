section MM2
variable {d n : Nat} {S : Tb}
/-- node n's measures alone -/
def MNf (n : Nat) (h h' : Hp) : Prop := (hI h' = hI h ∧ hR h' = hR h ∧ hD h' = hD h ∧ hS h' = hS h ∧ hN h' = hN h ∧ hU h' = hU h) ∧ (∀ c j, ¬ ((c = 219 ∨ c = 220) ∧ j = n) → hL h' c j = hL h c j)
theorem MNf.refl (n : Nat) (h : Hp) : MNf n h h := ⟨⟨rfl, rfl, rfl, rfl, rfl, rfl⟩, fun _ _ _ => rfl⟩
theorem MNf.trans {n : Nat} {h h' h'' : Hp} (x : MNf n h h') (y : MNf n h' h'') : MNf n h h'' := by
  obtain ⟨⟨x1, x2, x3, x4, x5, x6⟩, x7⟩ := x
  obtain ⟨⟨y1, y2, y3, y4, y5, y6⟩, y7⟩ := y
  exact ⟨⟨y1.trans x1, y2.trans x2, y3.trans x3, y4.trans x4, y5.trans x5, y6.trans x6⟩, fun c j q => (y7 c j q).trans (x7 c j q)⟩
theorem MNf.two {h : Hp} {u v : Int64} : MNf n h (sL (sL h 219 n u) 220 n v) := ⟨⟨rfl, rfl, rfl, rfl, rfl, rfl⟩, fun c j q => by rw [hL_o (by omega), hL_o (by omega)]⟩
theorem MNf.ms {h h' : Hp} (x : MNf n h h') : MSf h h' := ⟨⟨x.1.2.1, x.1.2.2.1, x.1.2.2.2.1, x.1.2.2.2.2.1, x.1.2.2.2.2.2⟩, fun c _ => by rw [x.1.1], fun c q => funext fun j => x.2 c j (by omega)⟩
theorem gM_n {h : Hp} {u v : Int64} : gM (sL (sL h 219 n u) 220 n v) n = (u, v) := by unfold gM; rw [hL_s, hL_o (by omega), hL_s]
theorem gM_f {h h' : Hp} (x : MNf n h h') {k : Nat} (hk : ¬ k = n) : gM h' k = gM h k := by unfold gM; rw [x.2 _ _ (by omega), x.2 _ _ (by omega)]
theorem chM_congr {g g' : Nat → Int64 × Int64} : ∀ {l : List Nat} {a : Int64 × Int64}, (∀ k, k ∈ l → g k = g' k) → chM g l a = chM g' l a
  | [], _, _ => rfl
  | k :: r, a, h => by unfold chM; rw [h k (List.mem_cons_self ..), chM_congr fun x hx => h x (List.mem_cons_of_mem _ hx)]
theorem sumM_congr {g g' : Nat → Int64 × Int64} : ∀ {l : List Nat} {b : Int32} {a : Int64 × Int64}, (∀ k, k ∈ l → g k = g' k) → sumM S g l b a = sumM S g' l b a
  | [], _, _, _ => rfl
  | k :: r, b, a, h => by
    have ih : ∀ b a, sumM S g r b a = sumM S g' r b a := fun b a => sumM_congr fun x hx => h x (List.mem_cons_of_mem _ hx)
    unfold sumM
    rw [ih, ih, ih, h k (List.mem_cons_self ..)]
/-- from 266 on -/
theorem mea_266 {K : Hp → Prop} {h0 h : Hp} (W : TW S) (T : TabM h S) (hn : n < S.1) (F : MNf n h0 h) {y4 y5 y6 y7 y8 y9 : Option Value} {v : Int64 × Int64}
    (hv : v = if tG S n 0 = 63 then (match kids S n with | [] => (0, 0) | c :: r => chM (gM h0) r (gM h0 c)) else gM h n)
    (k : ∀ h', MNf n h0 h' → gM h' n = (capM v.1, capM v.2) → K h') : Wp (d + 1) m_Mo_measure 266 [some (.ref 197), some (.int (iv n)), some (.int (tG S n 0)), some (.int (hdI (kids S n))), y4, y5, y6, y7, y8, y9] [] h (QV K) := by
  have M := T.1
  have u90 := T.2.2.1
  have an : ainr (iv n) 90 = true := ainr_iv (by omega) (by omega)
  have cn : (iv n).toNatClampNeg = n := iv_clamp (by omega)
  refine w_Mo_measure_266 ?_
  by_cases c : tG S n 0 = 63
  · rw [if_pos c] at hv ⊢
    obtain ⟨c1, c2⟩ := T.2.2.2.2.2 n hn
    obtain ⟨x, x1, x2⟩ := (W.2.2.1 n hn).1.2.2 (by rw [c]; rfl)
    have xk : x ∈ kids S n := kids_mem.mpr ⟨x1, x2⟩
    cases e : kids S n with
    | nil => rw [e] at xk; exact nomatch xk
    | cons y r =>
      rw [e] at c2 hv
      have yk : y ∈ kids S n := by rw [e]; exact List.mem_cons_self ..
      obtain ⟨yn, yu⟩ := kids_gt W.1 yk
      have ay : ainr (iv y) 90 = true := ainr_iv (by omega) (by omega)
      have cy : (iv y).toNatClampNeg = y := iv_clamp (by omega)
      have nx : hI h 211 y = hdI r := c2.2.1
      rw [show hdI (y :: r) = iv y from rfl]
      have o2 : ∀ v, hL (sL h 219 n v) 220 y = hL h 220 y := fun v => hL_o (by omega)
      simp only [hR_sI, hS_sI, M.o, M.r31, M.s219, M.r32, M.s220, M.r21, M.s211, true_and, an, cn, ay, cy, forall_eq, hR_sL, hI_sL, nx, o2]
      refine ⟨by decide, by decide, ?_⟩
      have T' : TabM (sL (sL h 219 n (hL h 219 y)) 220 n (hL h 220 y)) S := (T.ms (MSf.sL (by decide))).ms (MSf.sL (by decide))
      have rk : ∀ k, k ∈ r → k ∈ kids S n := fun z hz => by rw [e]; exact List.mem_cons_of_mem _ hz
      refine mea_304 W hn r _ (iv y) _ T' (c2.2.2.mono fun _ _ => ⟨rfl, rfl⟩) rk (k _ ((F.trans MNf.two).trans MNf.two) ?_)
      rw [gM_n, gM_n]
      have : chM (gM (sL (sL h 219 n (hL h 219 y)) 220 n (hL h 220 y))) r (hL h 219 y, hL h 220 y) = v := by
        rw [hv]
        show chM _ r (gM h y) = chM (gM h0) r (gM h0 y)
        rw [gM_f F (by omega)]
        refine chM_congr fun z hz => ?_
        have zn := (kids_gt W.1 (rk z hz)).1
        rw [gM_o (by omega)]; exact gM_f F (by omega)
      rw [this]
  · rw [if_neg c] at hv ⊢
    refine mea_399 T hn (k _ (F.trans MNf.two) ?_)
    rw [gM_n, hv]; rfl
/-- from 208 on -/
theorem mea_208 {K : Hp → Prop} {h0 h : Hp} (W : TW S) (T : TabM h S) (hn : n < S.1) (F : MNf n h0 h) {y4 y9 : Option Value} {a b : Int64} {v : Int64 × Int64}
    (hv : v = if tG S n 0 = 42 then (match kids S n with | [] => (0, 0) | c :: _ => (a * (gM h0 c).1, b * (gM h0 c).2)) else if tG S n 0 = 47 then (a, b) else if tG S n 0 = 63 then (match kids S n with | [] => (0, 0) | c :: r => chM (gM h0) r (gM h0 c)) else gM h n)
    (k : ∀ h', MNf n h0 h' → gM h' n = (capM v.1, capM v.2) → K h') : Wp (d + 1) m_Mo_measure 208 [some (.ref 197), some (.int (iv n)), some (.int (tG S n 0)), some (.int (hdI (kids S n))), y4, some (.long a), none, some (.long b), none, y9] [] h (QV K) := by
  have M := T.1
  have u90 := T.2.2.1
  have an : ainr (iv n) 90 = true := ainr_iv (by omega) (by omega)
  have cn : (iv n).toNatClampNeg = n := iv_clamp (by omega)
  refine w_Mo_measure_208 ?_
  by_cases c : tG S n 0 = 42
  · have c47 : ¬ tG S n 0 = 47 := by rw [c]; decide
    have c63 : ¬ tG S n 0 = 63 := by rw [c]; decide
    rw [if_pos c] at hv ⊢
    obtain ⟨x, x1, x2⟩ := (W.2.2.1 n hn).1.2.2 (by rw [c]; rfl)
    have xk : x ∈ kids S n := kids_mem.mpr ⟨x1, x2⟩
    have gen : ∀ (u : Int64 × Int64), u = v → Wp (d + 1) m_Mo_measure 266 [some (.ref 197), some (.int (iv n)), some (.int (tG S n 0)), some (.int (hdI (kids S n))), y4, some (.long a), none, some (.long b), none, y9] [] (sL (sL h 219 n u.1) 220 n u.2) (QV K) := by
      rintro u rfl
      refine mea_266 W ((T.ms (MSf.sL (by decide))).ms (MSf.sL (by decide))) hn (F.trans MNf.two) ?_ k
      rw [if_neg c63, gM_n]
    cases e : kids S n with
    | nil => rw [e] at xk; exact nomatch xk
    | cons y r =>
      rw [e] at hv gen
      have yk : y ∈ kids S n := by rw [e]; exact List.mem_cons_self ..
      obtain ⟨yn, yu⟩ := kids_gt W.1 yk
      have ay : ainr (iv y) 90 = true := ainr_iv (by omega) (by omega)
      have cy : (iv y).toNatClampNeg = y := iv_clamp (by omega)
      rw [show hdI (y :: r) = iv y from rfl] at gen ⊢
      have o2 : ∀ v, hL (sL h 219 n v) 220 y = hL h 220 y := fun v => hL_o (by omega)
      simp only [hR_sI, hS_sI, M.o, M.r31, M.s219, M.r32, M.s220, true_and, an, cn, ay, cy, forall_eq, hR_sL, o2, if_neg c47]
      refine ⟨by decide, by decide, gen (a * hL h 219 y, b * hL h 220 y) ?_⟩
      rw [hv]
      have : gM h0 y = gM h y := (gM_f F (by omega)).symm
      show _ = (a * (gM h0 y).1, b * (gM h0 y).2)
      rw [this]; rfl
  · rw [if_neg c] at hv ⊢
    by_cases c47 : tG S n 0 = 47
    · have c63 : ¬ tG S n 0 = 63 := by rw [c47]; decide
      rw [if_pos c47] at hv ⊢
      simp only [hR_sI, hS_sI, M.o, M.r31, M.s219, M.r32, M.s220, true_and, an, cn, forall_eq, hR_sL]
      refine ⟨by decide, by decide, ?_⟩
      refine mea_266 W ((T.ms (MSf.sL (by decide))).ms (MSf.sL (by decide))) hn (F.trans MNf.two) ?_ k
      rw [if_neg c63, gM_n, hv]
    · rw [if_neg c47] at hv ⊢
      exact mea_266 W T hn F hv k
/-- from 69 on: nothing is meant, or its high end is below 0 -/
theorem mea_69 {K : Hp → Prop} {h : Hp} (W : TW S) (T : TabM h S) (hn : n < S.1) {y4 y7 y8 y9 : Option Value} {a : Int64} {v : Int64 × Int64}
    (hv : v = if tG S n 0 = 123 then sumM S (gM h) (kids S n) 0 (0, 0) else if tG S n 0 = 42 then (match kids S n with | [] => (0, 0) | c :: _ => (a * (gM h c).1, 0 * (gM h c).2)) else if tG S n 0 = 47 then (a, 0) else if tG S n 0 = 63 then (match kids S n with | [] => (0, 0) | c :: r => chM (gM h) r (gM h c)) else baseM S n)
    (k : ∀ h', MNf n h h' → gM h' n = (capM v.1, capM v.2) → K h') : Wp (d + 1) m_Mo_measure 69 [some (.ref 197), some (.int (iv n)), some (.int (tG S n 0)), some (.int (hdI (kids S n))), y4, some (.long a), none, y7, y8, y9] [] h (QV K) := by
  have M := T.1
  have u90 := T.2.2.1
  have an : ainr (iv n) 90 = true := ainr_iv (by omega) (by omega)
  have cn : (iv n).toNatClampNeg = n := iv_clamp (by omega)
  have f1 : hI h 203 n = tG S n 1 := T.f (j := 1) (by decide) hn
  have gen : ∀ (u : Int64 × Int64) (y4 y9 : Option Value), ¬ tG S n 0 = 123 → (¬ tG S n 0 = 42 → ¬ tG S n 0 = 47 → ¬ tG S n 0 = 63 → u = baseM S n) → Wp (d + 1) m_Mo_measure 208 [some (.ref 197), some (.int (iv n)), some (.int (tG S n 0)), some (.int (hdI (kids S n))), y4, some (.long a), none, some (.long 0), none, y9] [] (sL (sL h 219 n u.1) 220 n u.2) (QV K) := by
    intro u y4 y9 n123 hu
    refine mea_208 W ((T.ms (MSf.sL (by decide))).ms (MSf.sL (by decide))) hn MNf.two (v := v) ?_ k
    rw [if_neg n123] at hv
    rw [hv, gM_n]
    by_cases c1 : tG S n 0 = 42
    · rw [if_pos c1, if_pos c1]
    rw [if_neg c1, if_neg c1]
    by_cases c2 : tG S n 0 = 47
    · rw [if_pos c2, if_pos c2]
    rw [if_neg c2, if_neg c2]
    by_cases c3 : tG S n 0 = 63
    · rw [if_pos c3, if_pos c3]
    rw [if_neg c3, if_neg c3, hu c1 c2 c3]
  have o2 : ∀ v, hL (sL h 219 n v) 219 n = v := fun v => hL_s
  unfold baseM at gen
  refine w_Mo_measure_69 ?_
  simp only [hR_sI, hS_sI, M.o, M.r13, M.s203, M.r31, M.s219, M.r32, M.s220, true_and, an, cn, forall_eq, hR_sL, hI_sL, f1, o2]
  by_cases c1 : tG S n 0 = 122
  · rw [c1] at gen ⊢
    simp (decide := true) only [if_true, if_false, true_and]
    exact gen (1, 21) _ _ (by decide) fun _ _ _ => by simp
  by_cases c2 : tG S n 0 = 102
  · rw [c2] at gen ⊢
    simp (decide := true) only [if_true, if_false, true_and]
    exact gen (4, 4) _ _ (by decide) fun _ _ _ => by simp (decide := true)
  by_cases c3 : tG S n 0 = 100
  · rw [c3] at gen ⊢
    simp (decide := true) only [if_true, if_false, true_and]
    exact gen (8, 8) _ _ (by decide) fun _ _ _ => by simp (decide := true)
  by_cases c4 : tG S n 0 = 114
  · rw [c4] at gen ⊢
    simp (decide := true) only [if_true, if_false, true_and]
    exact gen (0, 120) _ _ (by decide) fun _ _ _ => by simp (decide := true)
  by_cases c5 : tG S n 0 = 112
  · rw [c5] at gen ⊢
    simp (decide := true) only [if_true, if_false, true_and]
    exact gen (((tG S n 1 + 7) / 8).toInt64, ((tG S n 1 + 7) / 8).toInt64) _ _ (by decide) fun _ _ _ => by simp (decide := true)
  simp only [if_neg c1, if_neg c2, if_neg c3, if_neg c4, if_neg c5]
  refine ⟨by decide, by decide, ?_⟩
  by_cases c6 : tG S n 0 = 123
  · rw [if_pos c6]
    rw [if_pos c6] at hv
    refine c_sumFields W ((T.ms (MSf.sL (by decide))).ms (MSf.sL (by decide))) hn ?_
    rw [sL_two h n (by decide)]
    have e : sumM S (gM (sL (sL h 219 n (tG S n 1).toInt64) 220 n (tG S n 1).toInt64)) (kids S n) 0 (0, 0) = v := by
      rw [hv]
      exact sumM_congr fun z hz => gM_o (by have := (kids_gt W.1 hz).1; omega)
    rw [e]
    refine mea_208 W ((T.ms (MSf.sL (by decide))).ms (MSf.sL (by decide))) hn MNf.two (v := v) ?_ k
    rw [if_neg (by rw [c6]; decide), if_neg (by rw [c6]; decide), if_neg (by rw [c6]; decide), gM_n]
  · rw [if_neg c6]
    refine gen ((tG S n 1).toInt64, (tG S n 1).toInt64) _ _ c6 fun _ _ _ => ?_
    rw [if_neg c1, if_neg c4, if_neg c2, if_neg c3, if_neg c5]
theorem c_Mmea {K : Hp → Prop} {h : Hp} (W : TW S) (T : TabM h S) (A : Sa h S S.1) (hn : n < S.1) (k : ∀ h', MNf n h h' → gM h' n = (capM (locM S (gM h) n).1, capM (locM S (gM h) n).2) → K h') : Ca (d + 1) m_Mo_measure [.ref 197, .int (iv n)] h (QV K) := by
  have M := T.1
  have u90 := T.2.2.1
  have an : ainr (iv n) 90 = true := ainr_iv (by omega) (by omega)
  have cn : (iv n).toNatClampNeg = n := iv_clamp (by omega)
  have f0 : hI h 202 n = tG S n 0 := T.f (j := 0) (by decide) hn
  have f1 : hI h 203 n = tG S n 1 := T.f (j := 1) (by decide) hn
  obtain ⟨c1, c2⟩ := T.2.2.2.2.2 n hn
  refine w_Mo_measure ?_
  simp only [hR_sI, hS_sI, M.o, M.r12, M.s202, M.r20, M.s210, M.r33, M.s221, true_and, an, cn, f0, c1, A.2 n hn]
  rintro _ rfl _ rfl _ rfl
  have w69 : ∀ (a : Int64) (y4 y7 y8 y9 : Option Value), a = endM S loT n → endM S hiT n = 0 → Wp (d + 1) m_Mo_measure 69 [some (.ref 197), some (.int (iv n)), some (.int (tG S n 0)), some (.int (hdI (kids S n))), y4, some (.long a), none, y7, y8, y9] [] h (QV K) := by
    rintro a y4 y7 y8 y9 rfl e2
    refine mea_69 W T hn (v := locM S (gM h) n) ?_ k
    unfold locM
    rw [e2]
    rfl
  cases e : fld S n with
  | zero =>
    have z1 : endM S loT n = 0 := by unfold endM; rw [if_pos e]
    have z2 : endM S hiT n = 0 := by unfold endM; rw [if_pos e]
    rw [show lkI 0 = -1 from rfl, if_pos (by decide)]
    refine w_Mo_measure_39 ?_
    rw [if_pos (by decide)]
    exact w69 0 _ _ _ _ z1.symm z2
  | succ f =>
    have hd : dp (tG S n 0) = true := by
      cases q : dp (tG S n 0) with
      | true => rfl
      | false => unfold fld at e; rw [q] at e; cases e
    have e' : mnt S n = f + 1 := by unfold fld at e; rw [if_pos hd] at e; exact e
    obtain ⟨g1, g2⟩ := mnt_sz W.1 hn (by rw [e']; exact Nat.succ_ne_zero f)
    rw [e'] at g1 g2
    have fu : f < S.1 := by have g1 : f < n := g1; omega
    have af : ainr (iv f) 90 = true := ainr_iv (by omega) (by omega)
    have cf : (iv f).toNatClampNeg = f := iv_clamp (by omega)
    obtain ⟨l1, l2⟩ := A.1 f fu g2
    have E1 : endM S loT n = if loT S f < 0 then 0 else loT S f := by unfold endM; rw [e, if_neg (Nat.succ_ne_zero f)]; rfl
    have E2 : endM S hiT n = if hiT S f < 0 then 0 else hiT S f := by unfold endM; rw [e, if_neg (Nat.succ_ne_zero f)]; rfl
    have n123 : ¬ tG S n 0 = 123 := fun q => by rw [q] at hd; cases hd
    -- the middle, where something is meant
    have gen : ∀ (u : Int64 × Int64) (y4 y9 : Option Value) (a b : Int64), a = endM S loT n → b = endM S hiT n → Wp (d + 1) m_Mo_measure 208 [some (.ref 197), some (.int (iv n)), some (.int (tG S n 0)), some (.int (hdI (kids S n))), y4, some (.long a), none, some (.long b), none, y9] [] (sL (sL h 219 n u.1) 220 n u.2) (QV K) := by
      rintro u y4 y9 a b rfl rfl
      refine mea_208 W ((T.ms (MSf.sL (by decide))).ms (MSf.sL (by decide))) hn MNf.two (v := locM S (gM h) n) ?_ k
      unfold locM
      rw [if_neg n123]
      unfold dp at hd
      simp only [Bool.or_eq_true, decide_eq_true_iff] at hd
      rcases hd with (hd | hd) | hd <;> rw [hd] <;> rfl
    have o2 : ∀ v, hL (sL h 219 n v) 219 n = v := fun v => hL_s
    rw [show lkI (f + 1) = iv f from rfl, if_neg (iv_neg (by omega))]
    simp only [hR_sI, hS_sI, M.o, M.r29, M.s217, M.r30, M.s218, M.r31, M.s219, M.r32, M.s220, M.r13, M.s203, true_and, an, cn, af, cf, l1, l2]
    by_cases a1 : loT S f < 0
    · rw [if_pos a1] at E1 ⊢
      refine w_Mo_measure_39 ?_
      rw [if_neg (iv_neg (by omega))]
      simp only [hR_sI, hS_sI, M.o, M.r29, M.s217, M.r30, M.s218, M.r31, M.s219, M.r32, M.s220, M.r13, M.s203, true_and, an, cn, af, cf, l1, l2]
      by_cases a2 : hiT S f < 0
      · rw [if_pos a2] at E2 ⊢
        exact w69 0 _ _ _ _ E1.symm E2
      · rw [if_neg a2] at E2 ⊢
        simp only [forall_eq, hR_sL, hI_sL, f1, o2, hR_sI, hS_sI, M.o, M.r31, M.s219, M.r32, M.s220, M.r13, M.s203, true_and, an, cn]
        unfold dp at hd
        simp only [Bool.or_eq_true, decide_eq_true_iff] at hd
        rcases hd with (hd | hd) | hd <;> rw [hd] at gen ⊢ <;> simp (decide := true) only [if_true, if_false, true_and] <;> exact gen (_, _) _ _ _ _ E1.symm E2.symm
    · rw [if_neg a1] at E1 ⊢
      rintro _ rfl
      rw [if_neg (iv_neg (by omega))]
      by_cases a2 : hiT S f < 0
      · rw [if_pos a2] at E2 ⊢
        exact w69 _ _ _ _ _ E1.symm E2
      · rw [if_neg a2] at E2 ⊢
        simp only [forall_eq, hR_sL, hI_sL, f1, o2, hR_sI, hS_sI, M.o, M.r31, M.s219, M.r32, M.s220, M.r13, M.s203, true_and, an, cn]
        unfold dp at hd
        simp only [Bool.or_eq_true, decide_eq_true_iff] at hd
        rcases hd with (hd | hd) | hd <;> rw [hd] at gen ⊢ <;> simp (decide := true) only [if_true, if_false, true_and] <;> exact gen (_, _) _ _ _ _ E1.symm E2.symm
end MM2
