/-! the Model measures -/
def nx112 (S : Tb) : List Nat → Bool | [] => false | y :: _ => decide (tG S y 0 = 112)
def sumM (S : Tb) (g : Nat → Int64 × Int64) : List Nat → Int32 → Int64 × Int64 → Int64 × Int64
  | [], _, a => a
  | k :: r, bits, a => if tG S k 0 = 112 then (if nx112 S r = true then sumM S g r (bits + tG S k 1) a else sumM S g r 0 (a.1 + ((bits + tG S k 1 + 7) / 8).toInt64, a.2 + ((bits + tG S k 1 + 7) / 8).toInt64))
    else sumM S g r 0 (a.1 + (g k).1, a.2 + (g k).2)
def chM (g : Nat → Int64 × Int64) : List Nat → Int64 × Int64 → Int64 × Int64
  | [], a => a
  | x :: r, a => chM g r (if (g x).1 < a.1 then (g x).1 else a.1, if a.2 < (g x).2 then (g x).2 else a.2)
def endM (S : Tb) (e : Tb → Nat → Int64) (n : Nat) : Int64 := if fld S n = 0 then 0 else if e S (fld S n - 1) < 0 then 0 else e S (fld S n - 1)
def baseM (S : Tb) (n : Nat) : Int64 × Int64 := if tG S n 0 = 122 then (1, 21) else if tG S n 0 = 114 then (0, 120) else if tG S n 0 = 102 then (4, 4) else if tG S n 0 = 100 then (8, 8)
  else if tG S n 0 = 112 then (((tG S n 1 + 7) / 8).toInt64, ((tG S n 1 + 7) / 8).toInt64) else ((tG S n 1).toInt64, (tG S n 1).toInt64)
def locM (S : Tb) (g : Nat → Int64 × Int64) (n : Nat) : Int64 × Int64 :=
  if tG S n 0 = 123 then sumM S g (kids S n) 0 (0, 0)
  else if tG S n 0 = 42 then (match kids S n with | [] => (0, 0) | c :: _ => (endM S loT n * (g c).1, endM S hiT n * (g c).2))
  else if tG S n 0 = 47 then (endM S loT n, endM S hiT n)
  else if tG S n 0 = 63 then (match kids S n with | [] => (0, 0) | c :: r => chM g r (g c)) else baseM S n
def capM (x : Int64) : Int64 := if 1000000 < x then 1000000 else x
section MME
variable {d n : Nat} {h : Hp} {S : Tb}
def gM (h : Hp) (k : Nat) : Int64 × Int64 := (hL h 219 k, hL h 220 k)
theorem gM_o {k : Nat} {u v : Int64} (hk : ¬ k = n) : gM (sL (sL h 219 n u) 220 n v) k = gM h k := by
  unfold gM; rw [hL_o (by omega), hL_o (by omega), hL_o (by omega), hL_o (by omega)]
theorem sf_23 {K : Hp → Prop} (W : TW S) (hn : n < S.1) : ∀ (l : List Nat) (h : Hp) (pr bits : Int32), TabM h S → LkM h pr l → (∀ k, k ∈ l → k ∈ kids S n) → K (sL (sL h 219 n (sumM S (gM h) l bits (gM h n)).1) 220 n (sumM S (gM h) l bits (gM h n)).2) →
    Wp d m_Mo_sumFields 23 [some (.ref 197), some (.int (iv n)), some (.int bits), some (.int (hdI l))] [] h (QV K)
  | [], h, pr, bits, T, L, hl, k => by
    refine w_Mo_sumFields_23 ?_
    rw [if_pos (show hdI [] < 0 by decide)]
    have : sL (sL h 219 n (sumM S (gM h) [] bits (gM h n)).1) 220 n (sumM S (gM h) [] bits (gM h n)).2 = h := by
      show sL (sL h 219 n (hL h 219 n)) 220 n (hL h 220 n) = h
      rw [sL_id rfl, sL_id rfl]
    rw [this] at k; exact k
  | x :: l, h, pr, bits, T, L, hl, k => by
    have u90 := T.2.2.1
    have M := T.1
    have xk := hl x (List.mem_cons_self ..)
    obtain ⟨xn, xu⟩ := kids_gt W.1 xk
    have an : ainr (iv n) 90 = true := ainr_iv (by omega) (by omega)
    have cn : (iv n).toNatClampNeg = n := iv_clamp (by omega)
    have ax : ainr (iv x) 90 = true := ainr_iv (by omega) (by omega)
    have cx : (iv x).toNatClampNeg = x := iv_clamp (by omega)
    have f0 : hI h 202 x = tG S x 0 := T.f (j := 0) (by decide) xu
    have f1 : hI h 203 x = tG S x 1 := T.f (j := 1) (by decide) xu
    have nx : hI h 211 x = hdI l := L.2.1
    have hl' : ∀ k, k ∈ l → k ∈ kids S n := fun y hy => hl y (List.mem_cons_of_mem _ hy)
    -- behind the two additions
    have fin : ∀ (u v : Int64), K (sL (sL h 219 n (sumM S (gM h) l 0 (u, v)).1) 220 n (sumM S (gM h) l 0 (u, v)).2) → Wp d m_Mo_sumFields 23 [some (.ref 197), some (.int (iv n)), some (.int (0 : Int32)), some (.int (hdI l))] [] (sL (sL h 219 n u) 220 n v) (QV K) := by
      intro u v q
      refine sf_23 W hn l (sL (sL h 219 n u) 220 n v) _ 0 ((T.ms (MSf.sL (by decide))).ms (MSf.sL (by decide))) (L.2.2.mono fun _ _ => ⟨rfl, rfl⟩) hl' ?_
      have e1 : gM (sL (sL h 219 n u) 220 n v) n = (u, v) := by unfold gM; rw [hL_s, hL_o (by omega), hL_s]
      have e2 : sumM S (gM (sL (sL h 219 n u) 220 n v)) l 0 (u, v) = sumM S (gM h) l 0 (u, v) := by
        have : ∀ (l : List Nat), (∀ k, k ∈ l → k ∈ kids S n) → ∀ b a, sumM S (gM (sL (sL h 219 n u) 220 n v)) l b a = sumM S (gM h) l b a := by
          intro l
          induction l with
          | nil => intro _ _ _; rfl
          | cons y l ih =>
            intro hy b a
            have yn := (kids_gt W.1 (hy y (List.mem_cons_self ..))).1
            have ih := ih fun z hz => hy z (List.mem_cons_of_mem _ hz)
            unfold sumM
            rw [ih, ih, ih, gM_o (by omega)]
        exact this l hl' 0 (u, v)
      rw [e1, e2, sL_two h n (by decide)]
      exact q
    have w86 : ∀ bt : Int32, (tG S x 0 = 112 → K (sL (sL h 219 n (sumM S (gM h) l 0 ((gM h n).1 + ((bt + 7) / 8).toInt64, (gM h n).2 + ((bt + 7) / 8).toInt64)).1) 220 n (sumM S (gM h) l 0 ((gM h n).1 + ((bt + 7) / 8).toInt64, (gM h n).2 + ((bt + 7) / 8).toInt64)).2)) → (¬ tG S x 0 = 112 → K (sL (sL h 219 n (sumM S (gM h) l 0 ((gM h n).1 + (gM h x).1, (gM h n).2 + (gM h x).2)).1) 220 n (sumM S (gM h) l 0 ((gM h n).1 + (gM h x).1, (gM h n).2 + (gM h x).2)).2)) →
        Wp d m_Mo_sumFields 86 [some (.ref 197), some (.int (iv n)), some (.int bt), some (.int (iv x))] [] h (QV K) := by
      intro bt q1 q2
      refine w_Mo_sumFields_86 ?_
      have o1 : ∀ v, hL (sL h 219 n v) 220 n = hL h 220 n := fun v => hL_o (by omega)
      have o2 : ∀ v, hL (sL h 219 n v) 220 x = hL h 220 x := fun v => hL_o (by omega)
      simp only [hR_sI, hS_sI, M.o, M.r12, M.s202, M.r21, M.s211, M.r31, M.s219, M.r32, M.s220, true_and, an, cn, ax, cx, f0, forall_eq, hR_sL, hI_sL, nx, o1, o2]
      by_cases c : tG S x 0 = 112
      · simp only [if_pos c]
        exact ⟨by decide, by decide, fin _ _ (q1 c)⟩
      · simp only [if_neg c]
        exact ⟨by decide, by decide, fin _ _ (q2 c)⟩
    have w47 : ∀ bt : Int32, (tG S x 0 = 112 → K (if nx112 S l = true then sL (sL h 219 n (sumM S (gM h) l bt (gM h n)).1) 220 n (sumM S (gM h) l bt (gM h n)).2 else sL (sL h 219 n (sumM S (gM h) l 0 ((gM h n).1 + ((bt + 7) / 8).toInt64, (gM h n).2 + ((bt + 7) / 8).toInt64)).1) 220 n (sumM S (gM h) l 0 ((gM h n).1 + ((bt + 7) / 8).toInt64, (gM h n).2 + ((bt + 7) / 8).toInt64)).2)) → (¬ tG S x 0 = 112 → K (sL (sL h 219 n (sumM S (gM h) l 0 ((gM h n).1 + (gM h x).1, (gM h n).2 + (gM h x).2)).1) 220 n (sumM S (gM h) l 0 ((gM h n).1 + (gM h x).1, (gM h n).2 + (gM h x).2)).2)) →
        Wp d m_Mo_sumFields 47 [some (.ref 197), some (.int (iv n)), some (.int bt), some (.int (iv x))] [] h (QV K) := by
      intro bt q1 q2
      refine w_Mo_sumFields_47 ?_
      simp only [hR_sI, hS_sI, M.o, M.r12, M.s202, M.r21, M.s211, true_and, ax, cx, f0, nx]
      by_cases c : tG S x 0 = 112
      · rw [if_pos c]
        have q1 := q1 c
        match l, hl', L, q1, nx, w86 with
        | [], hl', L, q1, nx, w86 =>
          rw [if_pos (show hdI [] < 0 by decide)]
          rw [if_neg (show ¬ nx112 S [] = true from Bool.false_ne_true)] at q1
          exact w86 bt (fun _ => q1) fun z => absurd c z
        | y :: l, hl', L, q1, nx, w86 =>
          have yu := (kids_gt W.1 (hl' y (List.mem_cons_self ..))).2
          have f0y : hI h 202 y = tG S y 0 := T.f (j := 0) (by decide) yu
          rw [show hdI (y :: l) = iv y from rfl, if_neg (iv_neg (by omega)), iv_clamp (by omega), f0y]
          refine ⟨ainr_iv (by omega) (by omega), ?_⟩
          by_cases e : tG S y 0 = 112
          · rw [if_pos e]
            rw [if_pos (show nx112 S (y :: l) = true from decide_eq_true e)] at q1
            rintro _ rfl
            exact sf_23 W hn (y :: l) h _ bt T L.2.2 hl' q1
          · rw [if_neg e]
            rw [if_neg (show ¬ nx112 S (y :: l) = true from fun z => e (of_decide_eq_true z))] at q1
            exact w86 bt (fun _ => q1) fun z => absurd c z
      · rw [if_neg c]
        exact w86 bt (fun z => absurd z c) q2
    unfold sumM at k
    refine w_Mo_sumFields_23 ?_
    rw [show hdI (x :: l) = iv x from rfl, if_neg (iv_neg (by omega))]
    simp only [hR_sI, hS_sI, M.o, M.r12, M.s202, M.r13, M.s203, true_and, ax, cx, f0, f1]
    by_cases c : tG S x 0 = 112
    · rw [if_pos c]
      rw [if_pos c] at k
      rintro _ rfl
      refine w47 _ (fun _ => ?_) fun z => absurd c z
      by_cases e : nx112 S l = true
      · rw [if_pos e] at k ⊢; exact k
      · rw [if_neg e] at k ⊢; exact k
    · rw [if_neg c]
      rw [if_neg c] at k
      exact w47 bits (fun z => absurd z c) fun _ => k
theorem c_sumFields {K : Hp → Prop} (W : TW S) (T : TabM h S) (hn : n < S.1) (k : K (sL (sL h 219 n (sumM S (gM h) (kids S n) 0 (0, 0)).1) 220 n (sumM S (gM h) (kids S n) 0 (0, 0)).2)) : Ca d m_Mo_sumFields [.ref 197, .int (iv n)] h (QV K) := by
  have M := T.1
  have u90 := T.2.2.1
  have an : ainr (iv n) 90 = true := ainr_iv (by omega) (by omega)
  have cn : (iv n).toNatClampNeg = n := iv_clamp (by omega)
  obtain ⟨c1, c2⟩ := T.2.2.2.2.2 n hn
  refine w_Mo_sumFields ?_
  simp only [hR_sI, hS_sI, M.o, M.r20, M.s210, M.r31, M.s219, M.r32, M.s220, true_and, an, cn, forall_eq, hR_sL, hI_sL, c1]
  refine ⟨by decide, by decide, ?_⟩
  refine sf_23 W hn (kids S n) _ _ 0 ((T.ms (MSf.sL (by decide))).ms (MSf.sL (by decide))) (c2.mono fun _ _ => ⟨rfl, rfl⟩) (fun _ q => q) ?_
  have e1 : gM (sL (sL h 219 n 0) 220 n 0) n = (0, 0) := by unfold gM; rw [hL_s, hL_o (by omega), hL_s]
  have e2 : sumM S (gM (sL (sL h 219 n 0) 220 n 0)) (kids S n) 0 (0, 0) = sumM S (gM h) (kids S n) 0 (0, 0) := by
    have : ∀ (l : List Nat), (∀ k, k ∈ l → k ∈ kids S n) → ∀ b a, sumM S (gM (sL (sL h 219 n 0) 220 n 0)) l b a = sumM S (gM h) l b a := by
      intro l
      induction l with
      | nil => intro _ _ _; rfl
      | cons y l ih =>
        intro hy b a
        have yn := (kids_gt W.1 (hy y (List.mem_cons_self ..))).1
        have ih := ih fun z hz => hy z (List.mem_cons_of_mem _ hz)
        unfold sumM
        rw [ih, ih, ih, gM_o (by omega)]
    exact this _ (fun _ q => q) 0 (0, 0)
  rw [e1, e2, sL_two h n (by decide)]
  exact k
theorem mea_399 {K : Hp → Prop} (T : TabM h S) (hn : n < S.1) {y2 y3 y4 y5 y6 y7 y8 y9 : Option Value} (k : K (sL (sL h 219 n (capM (hL h 219 n))) 220 n (capM (hL h 220 n)))) : Wp (d + 1) m_Mo_measure 399 [some (.ref 197), some (.int (iv n)), y2, y3, y4, y5, y6, y7, y8, y9] [] h (QV K) := by
  have M := T.1
  have u90 := T.2.2.1
  have an : ainr (iv n) 90 = true := ainr_iv (by omega) (by omega)
  have cn : (iv n).toNatClampNeg = n := iv_clamp (by omega)
  have cap : ∀ {h : Hp} {x : Int64} {K : Int64 → Hp → Prop}, K (capM x) h → Ca d m_Mo_capped [.ref 197, .long x] h (QL K) := fun {h x K} q => by
    refine w_Mo_capped ?_
    unfold capM at q
    by_cases c : 1000000 < x
    · rw [if_pos c] at q ⊢; exact q
    · rw [if_neg c] at q ⊢; exact q
  refine w_Mo_measure_399 ?_
  simp only [hR_sI, hS_sI, M.o, M.r31, M.s219, M.r32, M.s220, true_and, an, cn, forall_eq, hR_sL]
  refine cap ?_
  refine ⟨by rw [M.s219], by decide, by rw [M.s219]; exact an, M.o, ?_⟩
  simp only [hR_sI, hS_sI, M.o, M.r31, M.s219, M.r32, M.s220, true_and, an, cn, forall_eq, hR_sL]
  rw [hL_o (by omega)]
  refine cap ?_
  refine ⟨by rw [hS_sL, M.s220], by decide, by rw [hS_sL, M.s220]; exact an, ?_⟩
  exact k
theorem mea_304 {K : Hp → Prop} (W : TW S) (hn : n < S.1) {y2 y3 y4 y5 y6 y7 : Option Value} : ∀ (l : List Nat) (h : Hp) (pr : Int32) (y8 : Option Value), TabM h S → LkM h pr l → (∀ k, k ∈ l → k ∈ kids S n) → K (sL (sL h 219 n (capM (chM (gM h) l (gM h n)).1)) 220 n (capM (chM (gM h) l (gM h n)).2)) →
    Wp (d + 1) m_Mo_measure 304 [some (.ref 197), some (.int (iv n)), y2, y3, y4, y5, y6, y7, y8, some (.int (hdI l))] [] h (QV K)
  | [], h, pr, y8, T, L, hl, k => by
    refine w_Mo_measure_304 ?_
    rw [if_pos (show hdI [] < 0 by decide)]
    exact mea_399 T hn k
  | x :: l, h, pr, y8, T, L, hl, k => by
    have M := T.1
    have u90 := T.2.2.1
    have xk := hl x (List.mem_cons_self ..)
    obtain ⟨xn, xu⟩ := kids_gt W.1 xk
    have an : ainr (iv n) 90 = true := ainr_iv (by omega) (by omega)
    have cn : (iv n).toNatClampNeg = n := iv_clamp (by omega)
    have ax : ainr (iv x) 90 = true := ainr_iv (by omega) (by omega)
    have cx : (iv x).toNatClampNeg = x := iv_clamp (by omega)
    have nx : hI h 211 x = hdI l := L.2.1
    have hl' : ∀ k, k ∈ l → k ∈ kids S n := fun y hy => hl y (List.mem_cons_of_mem _ hy)
    have fin : ∀ (u v : Int64) (y8 : Option Value), K (sL (sL h 219 n (capM (chM (gM h) l (u, v)).1)) 220 n (capM (chM (gM h) l (u, v)).2)) → Wp (d + 1) m_Mo_measure 304 [some (.ref 197), some (.int (iv n)), y2, y3, y4, y5, y6, y7, y8, some (.int (hdI l))] [] (sL (sL h 219 n u) 220 n v) (QV K) := by
      intro u v y8 q
      refine mea_304 W hn l (sL (sL h 219 n u) 220 n v) _ y8 ((T.ms (MSf.sL (by decide))).ms (MSf.sL (by decide))) (L.2.2.mono fun _ _ => ⟨rfl, rfl⟩) hl' ?_
      have e1 : gM (sL (sL h 219 n u) 220 n v) n = (u, v) := by unfold gM; rw [hL_s, hL_o (by omega), hL_s]
      have e2 : chM (gM (sL (sL h 219 n u) 220 n v)) l (u, v) = chM (gM h) l (u, v) := by
        have : ∀ (l : List Nat), (∀ k, k ∈ l → k ∈ kids S n) → ∀ a, chM (gM (sL (sL h 219 n u) 220 n v)) l a = chM (gM h) l a := by
          intro l
          induction l with
          | nil => intro _ _; rfl
          | cons y l ih =>
            intro hy a
            have yn := (kids_gt W.1 (hy y (List.mem_cons_self ..))).1
            unfold chM
            rw [ih fun z hz => hy z (List.mem_cons_of_mem _ hz), gM_o (by omega)]
        exact this l hl' (u, v)
      rw [e1, e2, sL_two h n (by decide)]
      exact q
    unfold chM at k
    refine w_Mo_measure_304 ?_
    have o1 : ∀ v, hL (sL h 219 n v) 220 n = hL h 220 n := fun v => hL_o (by omega)
    have o2 : ∀ v, hL (sL h 219 n v) 220 x = hL h 220 x := fun v => hL_o (by omega)
    rw [show hdI (x :: l) = iv x from rfl, if_neg (iv_neg (by omega))]
    simp only [hR_sI, hS_sI, M.o, M.r31, M.s219, M.r32, M.s220, M.r21, M.s211, true_and, an, cn, ax, cx, forall_eq, hR_sL, hI_sL, nx, o1, o2]
    show (if (gM h x).1 < (gM h n).1 then _ else _)
    by_cases c1 : (gM h x).1 < (gM h n).1
    · rw [if_pos c1]
      rw [if_pos c1] at k
      refine ⟨by decide, ?_⟩
      show (if (gM h n).2 < (gM h x).2 then _ else _)
      by_cases c2 : (gM h n).2 < (gM h x).2
      · rw [if_pos c2]
        rw [if_pos c2] at k
        exact ⟨by decide, fin _ _ _ k⟩
      · rw [if_neg c2]
        rw [if_neg c2] at k
        exact ⟨by decide, fin _ _ _ k⟩
    · rw [if_neg c1]
      rw [if_neg c1] at k
      refine ⟨by decide, ?_⟩
      show (if (gM h n).2 < (gM h x).2 then _ else _)
      by_cases c2 : (gM h n).2 < (gM h x).2
      · rw [if_pos c2]
        rw [if_pos c2] at k
        exact ⟨by decide, fin _ _ _ k⟩
      · rw [if_neg c2]
        rw [if_neg c2] at k
        exact ⟨by decide, fin _ _ _ k⟩
end MME
