section CHO
variable {d : Nat} {K : Int32 → Hp → Prop}
theorem c_inCho {g : Hp} {S : Tb} {n s dg : Nat} {w c : Int32} {r : List Fm} (hcs : Sgn c) (C : CfM g (S, (n, s, dg, w) :: r)) (W : WfP S) (A : All4 S ((n, s, dg, w) :: r)) (h0 : ¬ S.1 = 0) (h90 : S.1 < 90) (hk : tG S n 0 = 63)
    (k0 : inCho (S, (n, s, dg, w) :: r) c n s dg w r = none → ∀ g', MFr g g' → K 0 g') (k1 : ∀ X', inCho (S, (n, s, dg, w) :: r) c n s dg w r = some X' → ∀ g', CfM g' X' → MFr g g' → K 1 g') : Ca (d + 2) m_Mo_inChoice [.ref 197, .int c] g (QI K) := by
  obtain ⟨T, ⟨F, St⟩, h28, h5, hn⟩ := id C
  dsimp only at T F St h28 h5 hn
  have h5 : r.length + 1 ≤ 5 := h5
  have M := T.1
  have nlt : n < S.1 := hn _ (List.mem_cons_self ..)
  have n90 : n < 90 := by omega
  have top : hI g 197 28 - 1 = iv r.length := by rw [h28, show ((n, s, dg, w) :: r).length = r.length + 1 from rfl, iv1, iv_sub (by omega), Nat.add_sub_cancel]
  have at8 : ainr (iv r.length) 8 = true := ainr_iv (by omega) (by omega)
  have cl : (iv r.length).toNatClampNeg = r.length := iv_clamp (by omega)
  have an : ainr (iv n) 90 = true := ainr_iv (by omega) n90
  have cn : (iv n).toNatClampNeg = n := iv_clamp (by omega)
  obtain ⟨f1, f2, f3, f4, f5, f6, f7⟩ := F
  have zz : sz (tG S n 0) = false := by rw [hk]; rfl
  have up : ∀ (g' : Hp) (s' dg' : Nat) (w' : Int32), s' ≤ 5 → dg' ≤ 3 → hR g' = hR g → hS g' = hS g → (∀ a k, ¬ (a = 214 ∧ k = r.length) → ¬ (a = 215 ∧ k = r.length) → ¬ (a = 216 ∧ k = r.length) → hI g' a k = hI g a k) → hI g' 214 r.length = iv s' → (s' = 3 → hI g' 215 r.length = iv dg') → (waOn 63 s' = true → hI g' 216 r.length = w') → CfM g' (S, (n, s', dg', w') :: r) := by
    intro g' s' dg' w' hs' hd' e1 e2 o es ed ew
    refine C.top (T.mono e1 e2 (o _ _ (by omega) (by omega) (by omega)) fun a q1 q2 => funext fun k => o _ _ (by omega) (by omega) (by omega)) rfl (fun _ => rfl) (o _ _ (by omega) (by omega) (by omega)) ?_ fun f hf a q1 q2 => o _ _ (by omega) (by omega) (by omega)
    unfold FrM
    refine ⟨?_, es, ?_, ?_, ?_, hs', hd'⟩
    · rw [o _ _ (by omega) (by omega) (by omega)]; exact f1
    · intro q; unfold dgOn at q; rw [Bool.and_eq_true, decide_eq_true_iff] at q; exact ed q.1
    · intro _ q; rw [zz] at q; cases q
    · rw [hk]; exact ew
  have ne : ∀ b, b < 6 → ¬ s = b → ¬ iv s = iv b := fun b hb q => iv_ne (by omega) (by omega) q
  have w253 : ¬ s = 4 → ¬ s = 0 → ¬ s = 1 → ¬ s = 5 → ¬ (s = 2 ∧ c = 125 ∧ hc S n = true) → ¬ (di c = true ∧ (s = 2 ∨ dg < 3)) → Wp (d + 2) m_Mo_inChoice 253 [some (.ref 197), some (.int c), some (.int (iv r.length)), some (.int (iv n)), none] [] g (QI K) := by
    intro q1 q2 q3 q4 q5 q6
    have eq : inCho (S, (n, s, dg, w) :: r) c n s dg w r = if s = 3 ∧ c = 58 then some (S, (n, 4, dg, w) :: r) else none := by
      unfold inCho; rw [if_neg q1, if_neg q2, if_neg q3, if_neg q4, if_neg q5, if_neg q6]
    rw [eq] at k0 k1
    refine w_Mo_inChoice_253 ?_
    simp only [hR_sI, hS_sI, M.o, M.r25, M.s214, true_and, at8, cl]
    rw [f2]
    have FF : MFr g (sI g 214 r.length 4) := (MFr.refl g).si (by decide)
    by_cases a : s = 3
    · rw [if_pos (by rw [a]; rfl)]
      by_cases b : c = 58
      · rw [if_pos b]
        refine ⟨by decide, ?_⟩
        rintro _ rfl
        refine k1 _ (by rw [if_pos ⟨a, b⟩]) _ (up _ 4 dg w (by decide) f7 rfl rfl (fun a k q1 q2 q3 => hI_o q1) hI_s (fun q => by cases q) fun _ => ?_) FF
        rw [hI_o (by omega)]; exact f5 (by unfold waOn; rw [hk, a]; rfl)
      · rw [if_neg b]
        refine ⟨by decide, ?_⟩
        rintro _ rfl
        exact k0 (if_neg fun q => b q.2) _ FF
    · rw [if_neg (show ¬ iv s = 3 from ne 3 (by decide) a)]
      refine ⟨by decide, ?_⟩
      rintro _ rfl
      exact k0 (if_neg fun q => a q.1) _ FF
  have w179 : ¬ s = 4 → ¬ s = 0 → ¬ s = 1 → ¬ s = 5 → ¬ (s = 2 ∧ c = 125 ∧ hc S n = true) → (di c = true ∧ (s = 2 ∨ dg < 3)) → Wp (d + 2) m_Mo_inChoice 179 [some (.ref 197), some (.int c), some (.int (iv r.length)), some (.int (iv n)), none] [] g (QI K) := by
    intro q1 q2 q3 q4 q5 q6
    have eq : inCho (S, (n, s, dg, w) :: r) c n s dg w r = some (S, (n, 3, if s = 2 then 1 else dg + 1, if s = 2 then c - 48 else w * 10 + c - 48) :: r) := by
      unfold inCho; rw [if_neg q1, if_neg q2, if_neg q3, if_neg q4, if_neg q5, if_pos q6]
    rw [eq] at k1
    have k1 := k1 _ rfl
    refine w_Mo_inChoice_179 ?_
    simp only [hR_sI, hS_sI, M.o, M.r25, M.s214, M.r26, M.s215, M.r27, M.s216, true_and, at8, cl]
    rw [f2]
    by_cases a : s = 2
    · rw [if_pos (by rw [a]; rfl)]
      rw [if_pos a, if_pos a] at k1
      refine ⟨by decide, ?_⟩
      rintro _ rfl
      simp only [hR_sI, hS_sI, M.o, M.r25, M.s214, M.r26, M.s215, M.r27, M.s216, true_and, at8]
      rw [hI_o (by omega), f2, if_pos (by rw [a]; rfl)]
      refine ⟨by decide, ?_⟩
      rintro _ rfl
      simp only [hR_sI, hS_sI, M.o, M.r25, M.s214, M.r26, M.s215, M.r27, M.s216, true_and, at8]
      refine ⟨by decide, ?_⟩
      rintro _ rfl
      refine k1 _ (up _ 3 1 _ (by decide) (by decide) rfl rfl (fun a k q1 q2 q3 => by rw [hI_o q1, hI_o q2, hI_o q3]) hI_s (fun _ => by rw [hI_o (by omega)]; exact hI_s) fun _ => by rw [hI_o (by omega), hI_o (by omega)]; exact hI_s) ((((MFr.refl g).si (by decide)).si (by decide)).si (by decide))
    · have s3 : s = 3 := by omega
      have ed : hI g 215 r.length = iv dg := f3 (by unfold dgOn; rw [s3, hk]; rfl)
      have ew : hI g 216 r.length = w := f5 (by unfold waOn; rw [s3, hk]; rfl)
      have d3 : dg < 3 := by rcases q6.2 with q | q; exact absurd q a; exact q
      rw [if_neg (show ¬ iv s = 2 from ne 2 (by decide) a), ew]
      rw [if_neg a, if_neg a] at k1
      refine ⟨by decide, ?_⟩
      rintro _ rfl
      simp only [hR_sI, hS_sI, M.o, M.r25, M.s214, M.r26, M.s215, M.r27, M.s216, true_and, at8]
      rw [hI_o (by omega), f2, if_neg (show ¬ iv s = 2 from ne 2 (by decide) a), hI_o (by omega), ed]
      refine ⟨by decide, ?_⟩
      rintro _ rfl
      simp only [hR_sI, hS_sI, M.o, M.r25, M.s214, M.r26, M.s215, M.r27, M.s216, true_and, at8]
      refine ⟨by decide, ?_⟩
      rintro _ rfl
      rw [iv1, iv_add]
      refine k1 _ (up _ 3 (dg + 1) _ (by decide) d3 rfl rfl (fun a k q1 q2 q3 => by rw [hI_o q1, hI_o q2, hI_o q3]) hI_s (fun _ => by rw [hI_o (by omega)]; exact hI_s) fun _ => by rw [hI_o (by omega), hI_o (by omega)]; exact hI_s) ((((MFr.refl g).si (by decide)).si (by decide)).si (by decide))
  have w151 : ¬ s = 4 → ¬ s = 0 → ¬ s = 1 → ¬ s = 5 → ¬ (s = 2 ∧ c = 125 ∧ hc S n = true) → Wp (d + 2) m_Mo_inChoice 151 [some (.ref 197), some (.int c), some (.int (iv r.length)), some (.int (iv n)), none] [] g (QI K) := by
    intro q1 q2 q3 q4 q5
    refine w_Mo_inChoice_151 ⟨M.o, c_isDigit hcs ?_⟩
    by_cases a : di c = true
    · rw [if_pos a, if_neg (by decide)]
      simp only [hR_sI, hS_sI, M.o, M.r25, M.s214, M.r26, M.s215, true_and, at8, cl]
      rw [f2]
      by_cases b : s = 2
      · rw [if_pos (by rw [b]; rfl)]
        exact w179 q1 q2 q3 q4 q5 ⟨a, Or.inl b⟩
      · have s3 : s = 3 := by omega
        have ed : hI g 215 r.length = iv dg := f3 (by unfold dgOn; rw [s3, hk]; rfl)
        rw [if_neg (show ¬ iv s = 2 from ne 2 (by decide) b), ed]
        by_cases l : dg < 3
        · rw [if_pos (show iv dg < 3 from (iv_lt (b := 3) (by omega) (by omega)).mpr l)]
          exact w179 q1 q2 q3 q4 q5 ⟨a, Or.inr l⟩
        · rw [if_neg (show ¬ iv dg < 3 from fun q => l ((iv_lt (b := 3) (by omega) (by omega)).mp q))]
          exact w253 q1 q2 q3 q4 q5 (fun q => by rcases q.2 with q | q; exact b q; exact l q)
    · rw [if_neg a, if_pos rfl]
      exact w253 q1 q2 q3 q4 q5 (fun q => a q.1)
  refine w_Mo_inChoice ⟨M.o, ?_⟩
  rintro _ rfl
  rw [top]
  simp only [hR_sI, hS_sI, M.o, M.r24, M.s213, M.r25, M.s214, M.r16, M.s206, M.r20, M.s210, true_and, at8, cl]
  rintro _ rfl
  rw [f1, f2, cn]
  by_cases e4 : s = 4
  · rw [if_pos (by rw [e4]; rfl)]
    unfold inCho at k0 k1
    rw [if_pos e4] at k0
    simp only [if_pos e4] at k1
    exact c_begin C W (Or.inr ⟨h0, n, s, dg, w, r, rfl, nlt, Or.inr (Or.inl ⟨hk, e4⟩)⟩) A.bel h90 (fun q g' F' => and1 (k0 q g' F') (Or.inl rfl)) (fun X' q g' C' F' => and1 (k1 X' q g' C' F') (Or.inr rfl))
  rw [if_neg (show ¬ iv s = 4 from ne 4 (by decide) e4)]
  by_cases e0 : s = 0
  · rw [if_pos (by rw [e0]; rfl)]
    unfold inCho at k0 k1
    rw [if_neg e4, if_pos e0] at k0
    simp only [if_neg e4, if_pos e0] at k1
    refine ⟨by decide, an, ?_⟩
    rintro _ rfl
    simp only [hR_sI, hS_sI, M.o, M.r25, M.s214, true_and, at8]
    refine ⟨by decide, ?_⟩
    rintro _ rfl
    have FF : MFr g (sI (sI g 206 n (c - 97)) 214 r.length 1) := ((MFr.refl g).si (by decide)).si (by decide)
    refine c_isName ?_
    by_cases b : nm c = true
    · rw [if_pos b]
      simp only [if_pos b] at k1
      refine and1 (k1 _ rfl _ ?_ FF) (Or.inr rfl)
      refine C.top (((T.tF (j := 4) (by decide)).mono rfl rfl (by rw [hI_o (by omega)]) (fun a h1 h2 => by rw [hI_ne (by omega)]))) rfl (fun k => tG_k (by decide)) (by rw [hI_o (by omega), hI_o (by omega)]) ?_ (fun f hf a h1 h2 => by rw [hI_o (by omega), hI_o (by omega)])
      unfold FrM
      refine ⟨?_, hI_s, ?_, ?_, ?_, by decide, f7⟩
      · rw [hI_o (by omega), hI_o (by omega)]; exact f1
      · intro q; unfold dgOn at q; simp at q
      · intro q; exact absurd q (by decide)
      · intro q; exfalso; unfold waOn at q; rw [hk] at q; revert q; decide
    · rw [if_neg b]
      rw [if_neg b] at k0
      exact k0 rfl _ FF
  rw [if_neg (show ¬ iv s = 0 from ne 0 (by decide) e0)]
  by_cases e1 : s = 1
  · rw [if_pos (by rw [e1]; rfl)]
    unfold inCho at k0 k1
    rw [if_neg e4, if_neg e0, if_pos e1] at k0
    simp only [if_neg e4, if_neg e0, if_pos e1] at k1
    refine w_Mo_inChoice_82 ?_
    simp only [hR_sI, hS_sI, M.o, M.r25, M.s214, true_and, at8, cl]
    rw [f2, if_pos (by rw [e1]; rfl)]
    refine ⟨by decide, ?_⟩
    rintro _ rfl
    have FF : MFr g (sI g 214 r.length 2) := (MFr.refl g).si (by decide)
    by_cases b : c = 123
    · rw [if_pos b]
      simp only [if_pos b] at k1
      exact k1 _ rfl _ (up _ 2 dg w (by decide) f7 rfl rfl (fun a k q1 q2 q3 => hI_o q1) hI_s (fun q => by cases q) fun q => by exfalso; revert q; decide) FF
    · rw [if_neg b]; rw [if_neg b] at k0; exact k0 rfl _ FF
  rw [if_neg (show ¬ iv s = 1 from ne 1 (by decide) e1)]
  by_cases e5 : s = 5
  · rw [if_pos (by rw [e5]; rfl)]
    unfold inCho at k0 k1
    rw [if_neg e4, if_neg e0, if_neg e1, if_pos e5] at k0
    simp only [if_neg e4, if_neg e0, if_neg e1, if_pos e5] at k1
    refine w_Mo_inChoice_82 ?_
    simp only [hR_sI, hS_sI, M.o, M.r25, M.s214, true_and, at8, cl]
    rw [f2, if_neg (show ¬ iv s = 1 from ne 1 (by decide) e1)]
    refine ⟨by decide, ?_⟩
    rintro _ rfl
    have FF : MFr g (sI g 214 r.length 2) := (MFr.refl g).si (by decide)
    by_cases b : c = 59
    · rw [if_pos b]
      simp only [if_pos b] at k1
      exact k1 _ rfl _ (up _ 2 dg w (by decide) f7 rfl rfl (fun a k q1 q2 q3 => hI_o q1) hI_s (fun q => by cases q) fun q => by exfalso; revert q; decide) FF
    · rw [if_neg b]; rw [if_neg b] at k0; exact k0 rfl _ FF
  rw [if_neg (show ¬ iv s = 5 from ne 5 (by decide) e5)]
  by_cases e2 : s = 2
  · rw [if_pos (by rw [e2]; rfl)]
    by_cases b : c = 125
    · rw [if_pos b, (T.2.2.2.2.2 n nlt).1]
      refine ⟨an, ?_⟩
      cases e : kids S n with
      | nil =>
        rw [if_pos (by decide)]
        exact w151 e4 e0 e1 e5 (fun q => hc_iff.mp q.2.2 e)
      | cons x xs =>
        have : x < S.1 := (kids_mem.mp (by rw [e]; exact List.mem_cons_self ..)).1
        rw [show hdI (x :: xs) = iv x from rfl, if_neg (iv_neg (by omega))]
        have hcn : hc S n = true := hc_iff.mpr (by rw [e]; exact fun q => by cases q)
        refine c_finish C A.tl.bel fun g' C' F' => k1 _ ?_ g' C' F'
        unfold inCho
        rw [if_neg e4, if_neg e0, if_neg e1, if_neg e5, if_pos ⟨e2, b, hcn⟩]
    · rw [if_neg b]
      exact w151 e4 e0 e1 e5 (fun q => b q.2.1)
  · rw [if_neg (show ¬ iv s = 2 from ne 2 (by decide) e2)]
    exact w151 e4 e0 e1 e5 (fun q => e2 q.1)
/-- the sign falls to the type that stands open -/
theorem c_sign_65 {g : Hp} {S : Tb} {st : List Fm} {c : Int32} {y : Option Value} (hcs : Sgn c) (C : CfM g (S, st)) (W : WfP S) (A : All4 S st) (h0 : ¬ S.1 = 0) (h90 : S.1 < 90)
    (k0 : sgn2 (S, st) c = none → ∀ g', MFr g g' → K 0 g') (k1 : ∀ X', sgn2 (S, st) c = some X' → ∀ g', CfM g' X' → MFr g g' → K 1 g') : Wp (d + 3) m_Mo_sign 65 [some (.ref 197), some (.int c), y] [] g (QI K) := by
  obtain ⟨T, St, h28, h5, hn⟩ := id C
  dsimp only at T St h28 h5 hn
  have M := T.1
  refine w_Mo_sign_65 ⟨M.o, ?_⟩
  rw [h28]
  match st, St, h28, h5, hn, A, C, k0, k1 with
  | [], St, h28, h5, hn, A, C, k0, k1 =>
    rw [if_pos (by rfl)]
    exact k0 rfl g (MFr.refl g)
  | (n, s, dg, w) :: r, St, h28, h5, hn, A, C, k0, k1 =>
    have h5 : r.length + 1 ≤ 5 := h5
    have nlt : n < S.1 := hn _ (List.mem_cons_self ..)
    have top : iv ((n, s, dg, w) :: r).length - 1 = iv r.length := by rw [show ((n, s, dg, w) :: r).length = r.length + 1 from rfl, iv1, iv_sub (by omega), Nat.add_sub_cancel]
    have at8 : ainr (iv r.length) 8 = true := ainr_iv (by omega) (by omega)
    have cl : (iv r.length).toNatClampNeg = r.length := iv_clamp (by omega)
    rw [if_neg (show ¬ iv ((n, s, dg, w) :: r).length = 0 from iv_ne (b := 0) (show r.length + 1 < _ by omega) (by decide) (fun q => by cases q)), top]
    simp only [hR_sI, hS_sI, M.o, M.r24, M.s213, M.r12, M.s202, true_and, at8, cl]
    rw [St.1.1, iv_clamp (by omega), T.kd (by omega)]
    refine ⟨ainr_iv (by omega) (by omega), ?_⟩
    rintro _ rfl
    unfold sgn2 at k0 k1
    dsimp only at k0 k1
    by_cases e1 : tG S n 0 = 123
    · rw [if_pos e1]
      rw [if_pos e1] at k0
      simp only [if_pos e1] at k1
      exact c_inStr C W A h0 h90 e1 (fun q g' F' => and1 (k0 q g' F') (Or.inl rfl)) (fun X' q g' C' F' => and1 (k1 X' q g' C' F') (Or.inr rfl))
    · rw [if_neg e1]
      rw [if_neg e1] at k0
      simp only [if_neg e1] at k1
      by_cases e2 : tG S n 0 = 63
      · rw [if_pos e2]
        rw [if_pos e2] at k0
        simp only [if_pos e2] at k1
        exact c_inCho hcs C W A h0 h90 e2 (fun q g' F' => and1 (k0 q g' F') (Or.inl rfl)) (fun X' q g' C' F' => and1 (k1 X' q g' C' F') (Or.inr rfl))
      · rw [if_neg e2]
        rw [if_neg e2] at k0
        simp only [if_neg e2] at k1
        have hk : tG S n 0 = 42 ∨ tG S n 0 = 47 := by
          have := (A _ (List.mem_cons_self ..)).2
          unfold kd4 at this
          simp only [Bool.or_eq_true, decide_eq_true_iff] at this
          rcases this with ((q | q) | q) | q
          · exact absurd q e1
          · exact absurd q e2
          · exact Or.inl q
          · exact Or.inr q
        exact c_inMny C W A h0 h90 hk (fun q g' F' => and1 (k0 q g' F') (Or.inl rfl)) (fun X' q g' C' F' => and1 (k1 X' q g' C' F') (Or.inr rfl))
/-- **one sign** -/
theorem c_sign {g : Hp} {X : Cf} {c : Int32} (hcs : Sgn c) (C : CfM g X) (I : Iv X) (h90 : X.1.1 < 90)
    (k0 : sgn X c = none → ∀ g', MFr g g' → K 0 g') (k1 : ∀ X', sgn X c = some X' → ∀ g', CfM g' X' → MFr g g' → K 1 g') : Ca (d + 3) m_Mo_sign [.ref 197, .int c] g (QI K) := by
  obtain ⟨S, st⟩ := X
  obtain ⟨T, St, h28, h5, hn⟩ := id C
  obtain ⟨W, I⟩ := I
  dsimp only at T St h28 h5 hn W I h90
  have M := T.1
  refine w_Mo_sign ⟨M.o, ?_⟩
  rw [T.2.1]
  by_cases h0 : S.1 = 0
  · have e : st = [] := by
      match st, hn with
      | [], _ => rfl
      | f :: r, hn => have := hn f (List.mem_cons_self ..); omega
    subst e
    rw [if_pos (by rw [h0]; rfl)]
    have e : sgn (S, []) c = bgn (S, []) c := by unfold sgn; rw [if_pos h0]
    rw [e] at k0 k1
    exact c_begin C W (Or.inl ⟨rfl, h0⟩) (fun f hf => nomatch hf) h90 (fun q g' F' => and1 (k0 q g' F') (Or.inl rfl)) (fun X' q g' C' F' => and1 (k1 X' q g' C' F') (Or.inr rfl))
  · rw [if_neg (show ¬ iv S.1 = 0 from iv_ne (b := 0) (by omega) (by decide) h0), h28]
    match st, St, h28, h5, hn, I, C, k0, k1 with
    | [], St, h28, h5, hn, I, C, k0, k1 =>
      rw [if_neg (by decide)]
      have A : All4 S [] := fun f hf => nomatch hf
      rw [sgn_2 h0 A.bel] at k0 k1
      exact c_sign_65 hcs C W A h0 h90 k0 k1
    | (n, s, dg, w) :: r, St, h28, h5, hn, I, C, k0, k1 =>
      have h5 : r.length + 1 ≤ 5 := h5
      have nlt : n < S.1 := hn _ (List.mem_cons_self ..)
      have top : iv ((n, s, dg, w) :: r).length - 1 = iv r.length := by rw [show ((n, s, dg, w) :: r).length = r.length + 1 from rfl, iv1, iv_sub (by omega), Nat.add_sub_cancel]
      have at8 : ainr (iv r.length) 8 = true := ainr_iv (by omega) (by omega)
      have cl : (iv r.length).toNatClampNeg = r.length := iv_clamp (by omega)
      rw [if_pos (show 0 < iv ((n, s, dg, w) :: r).length from (iv_lt (a := 0) (by decide) (show r.length + 1 < _ by omega)).mpr (Nat.succ_pos _)), top]
      simp only [hR_sI, hS_sI, M.o, M.r24, M.s213, M.r12, M.s202, true_and, at8, cl]
      rw [St.1.1, iv_clamp (by omega), T.kd (by omega)]
      refine ⟨ainr_iv (by omega) (by omega), c_sized ?_⟩
      by_cases hz : sz (tG S n 0) = true
      · rw [if_pos hz, if_neg (by decide)]
        refine ⟨M.o, c_inSized hcs C I.2.2.bel h0 hz (fun q g' F' => ?_) (fun X' q g' C' F' => ?_) fun q g' C' F' => ?_⟩
        · rw [if_pos (by decide), if_neg (by decide)]; exact k0 q g' F'
        · rw [if_pos (by decide), if_pos rfl]; exact k1 X' q g' C' F'
        · rw [if_neg (by decide)]
          exact c_sign_65 hcs C' W I.2.2.fin h0 h90 (fun z g2 F2 => k0 (q.trans z) g2 (F'.trans F2)) (fun X' z g2 C2 F2 => k1 X' (q.trans z) g2 C2 (F'.trans F2))
      · rw [if_neg hz, if_pos rfl]
        have A : All4 S ((n, s, dg, w) :: r) := fun x hx => by
          rcases List.mem_cons.mp hx with rfl | hx
          · rcases I.2.1 with i | i
            · exact ⟨nlt, i⟩
            · exact absurd i hz
          · exact I.2.2 x hx
        rw [sgn_2 h0 A.bel] at k0 k1
        exact c_sign_65 hcs C W A h0 h90 k0 k1
end CHO
