theorem hc_iff {S : Tb} {n : Nat} : hc S n = true ↔ ¬ kids S n = [] := by
  unfold hc kids
  rw [List.any_eq_true]
  constructor
  · rintro ⟨x, h1, h2⟩ q
    have : x ∈ (List.range S.1).filter fun k => decide (S.2.2 k = n + 1) := List.mem_filter.mpr ⟨h1, h2⟩
    rw [q] at this; exact nomatch this
  · intro q
    obtain ⟨x, h⟩ := List.exists_mem_of_ne_nil _ q
    obtain ⟨h1, h2⟩ := List.mem_filter.mp h; exact ⟨x, h1, h2⟩
section SG2
variable {d : Nat} {K : Int32 → Hp → Prop}
theorem and1 {v : Int32} {g : Hp} (k : K v g) (h : v = 0 ∨ v = 1) : K (v &&& 1) g := by
  rcases h with rfl | rfl
  · exact k
  · exact k
theorem c_inStr {g : Hp} {S : Tb} {n s dg : Nat} {w c : Int32} {r : List Fm} (C : CfM g (S, (n, s, dg, w) :: r)) (W : WfP S) (A : All4 S ((n, s, dg, w) :: r)) (h0 : ¬ S.1 = 0) (h90 : S.1 < 90) (hk : tG S n 0 = 123)
    (k0 : inStr (S, (n, s, dg, w) :: r) c n s dg w r = none → ∀ g', MFr g g' → K 0 g') (k1 : ∀ X', inStr (S, (n, s, dg, w) :: r) c n s dg w r = some X' → ∀ g', CfM g' X' → MFr g g' → K 1 g') : Ca (d + 2) m_Mo_inStructure [.ref 197, .int c] g (QI K) := by
  obtain ⟨T, ⟨F, St⟩, h28, h5, hn⟩ := id C
  dsimp only at T F St h28 h5 hn
  have h5 : r.length + 1 ≤ 5 := h5
  have M := T.1
  have nlt : n < S.1 := hn _ (List.mem_cons_self ..)
  have top : hI g 197 28 - 1 = iv r.length := by rw [h28, show ((n, s, dg, w) :: r).length = r.length + 1 from rfl, iv1, iv_sub (by omega), Nat.add_sub_cancel]
  have at8 : ainr (iv r.length) 8 = true := ainr_iv (by omega) (by omega)
  have cl : (iv r.length).toNatClampNeg = r.length := iv_clamp (by omega)
  obtain ⟨f1, f2, f3, f4, f5, f6, f7⟩ := F
  have zz : sz (tG S n 0) = false := by rw [hk]; rfl
  -- a store of the state, and perhaps of what is wanted
  have up : ∀ (g' : Hp) (s' : Nat) (w' : Int32), s' ≤ 5 → hR g' = hR g → hS g' = hS g → (∀ a k, ¬ (a = 214 ∧ k = r.length) → ¬ (a = 216 ∧ k = r.length) → hI g' a k = hI g a k) → hI g' 214 r.length = iv s' → (waOn 123 s' = true → hI g' 216 r.length = w') → CfM g' (S, (n, s', dg, w') :: r) := by
    intro g' s' w' hs' e1 e2 o es ew
    refine C.top (T.mono e1 e2 (o _ _ (by omega) (by omega)) fun a q1 q2 => funext fun k => o _ _ (by omega) (by omega)) rfl (fun _ => rfl) (o _ _ (by omega) (by omega)) ?_ fun f hf a q1 q2 => o _ _ (by omega) (by omega)
    unfold FrM
    refine ⟨?_, es, ?_, ?_, ?_, hs', f7⟩
    · rw [o _ _ (by omega) (by omega)]; exact f1
    · intro q; exfalso; unfold dgOn at q; rw [hk] at q; revert q; cases (decide (s' = 3)) <;> decide
    · intro _ q; rw [zz] at q; cases q
    · rw [hk]; exact ew
  refine w_Mo_inStructure ⟨M.o, ?_⟩
  rintro _ rfl
  rw [top]
  simp only [hR_sI, hS_sI, M.o, M.r25, M.s214, M.r27, M.s216, true_and, at8, cl]
  rw [f2]
  by_cases z : s = 0
  · rw [if_pos (by rw [z]; rfl)]
    unfold inStr at k0 k1
    rw [if_pos z] at k0
    simp only [if_pos z] at k1
    by_cases a : c = 125
    · rw [if_pos a]
      simp only [if_pos a] at k1
      exact c_finish C A.tl.bel fun g' C' F' => k1 _ rfl g' C' F'
    · rw [if_neg a]
      rw [if_neg a] at k0
      simp only [if_neg a] at k1
      refine ⟨by decide, ?_⟩
      rintro _ rfl
      simp only [hR_sI, hS_sI, M.o, M.r25, M.s214, true_and, at8]
      refine ⟨by decide, ?_⟩
      rintro _ rfl
      have U := up (sI (sI g 216 r.length (c - 97)) 214 r.length 1) 1 (c - 97) (by decide) rfl rfl (fun a k q1 q2 => by rw [hI_o q1, hI_o q2]) hI_s (fun _ => by rw [hI_o (by omega)]; exact hI_s)
      have FF : MFr g (sI (sI g 216 r.length (c - 97)) 214 r.length 1) := ((MFr.refl g).si (by decide)).si (by decide)
      refine c_isName ?_
      by_cases b : nm c = true
      · rw [if_pos b, if_neg (by decide)]
        simp only [hR_sI, hS_sI, M.o, M.r25, M.s214, true_and]
        rw [hI_o (by omega), hI_o (by omega), h28]
        have l5 : ((n, s, dg, w) :: r).length = r.length + 1 := rfl
        by_cases e : r.length + 1 < 5
        · rw [if_pos (show iv ((n, s, dg, w) :: r).length < 5 from (iv_lt (b := 5) (show r.length + 1 < _ by omega) (by omega)).mpr e)]
          simp only [if_pos (show nm c = true ∧ ((n, s, dg, w) :: r).length < 5 from ⟨b, e⟩)] at k1
          exact k1 _ rfl _ U FF
        · rw [if_neg (show ¬ iv ((n, s, dg, w) :: r).length < 5 from fun q => e ((iv_lt (b := 5) (show r.length + 1 < _ by omega) (by omega)).mp q))]
          rw [if_neg (show ¬ (nm c = true ∧ ((n, s, dg, w) :: r).length < 5) from fun q => e q.2)] at k0
          exact k0 rfl _ FF
      · rw [if_neg b, if_pos rfl]
        rw [if_neg (fun q => b q.1)] at k0
        exact k0 rfl _ FF
  · rw [if_neg (show ¬ iv s = 0 from iv_ne (b := 0) (by omega) (by decide) z)]
    unfold inStr at k0 k1
    rw [if_neg z] at k0
    simp only [if_neg z] at k1
    by_cases e2 : s = 2
    · rw [if_pos (by rw [e2]; rfl)]
      rw [if_pos e2] at k0
      simp only [if_pos e2] at k1
      exact c_begin C W (Or.inr ⟨h0, n, s, dg, w, r, rfl, nlt, Or.inl ⟨hk, e2⟩⟩) A.bel h90 (fun q g' F' => and1 (k0 q g' F') (Or.inl rfl)) (fun X' q g' C' F' => and1 (k1 X' q g' C' F') (Or.inr rfl))
    · rw [if_neg (show ¬ iv s = 2 from iv_ne (b := 2) (by omega) (by decide) e2)]
      rw [if_neg e2] at k0
      simp only [if_neg e2] at k1
      by_cases e1 : s = 1
      · rw [if_pos (by rw [e1]; rfl)]
        rw [if_pos e1] at k0
        simp only [if_pos e1] at k1
        refine ⟨by decide, ?_⟩
        rintro _ rfl
        simp only [hR_sI, hS_sI, M.o, M.r25, M.s214, true_and, at8, hI_s, if_true]
        have U := up (sI g 214 r.length 2) 2 w (by decide) rfl rfl (fun a k q1 q2 => hI_o q1) hI_s (fun _ => by rw [hI_o (by omega)]; exact f5 (by unfold waOn; rw [hk, e1]; rfl))
        have FF : MFr g (sI g 214 r.length 2) := (MFr.refl g).si (by decide)
        by_cases b : c = 58
        · rw [if_pos b]; simp only [if_pos b] at k1; exact k1 _ rfl _ U FF
        · rw [if_neg b]; rw [if_neg b] at k0; exact k0 rfl _ FF
      · rw [if_neg (show ¬ iv s = 1 from iv_ne (b := 1) (by omega) (by decide) e1)]
        rw [if_neg e1] at k0
        simp only [if_neg e1] at k1
        refine ⟨by decide, ?_⟩
        rintro _ rfl
        simp only [hR_sI, hS_sI, M.o, M.r25, M.s214, true_and, at8, hI_s]
        rw [if_neg (by decide)]
        have U := up (sI g 214 r.length 0) 0 w (by decide) rfl rfl (fun a k q1 q2 => hI_o q1) hI_s (fun q => by exfalso; revert q; decide)
        have FF : MFr g (sI g 214 r.length 0) := (MFr.refl g).si (by decide)
        by_cases b : c = 59
        · rw [if_pos b]; simp only [if_pos b] at k1; exact k1 _ rfl _ U FF
        · rw [if_neg b]; rw [if_neg b] at k0; exact k0 rfl _ FF
theorem c_inMny {g : Hp} {S : Tb} {n s dg : Nat} {w c : Int32} {r : List Fm} (C : CfM g (S, (n, s, dg, w) :: r)) (W : WfP S) (A : All4 S ((n, s, dg, w) :: r)) (h0 : ¬ S.1 = 0) (h90 : S.1 < 90) (hk : tG S n 0 = 42 ∨ tG S n 0 = 47)
    (k0 : inMny (S, (n, s, dg, w) :: r) c n s dg w r = none → ∀ g', MFr g g' → K 0 g') (k1 : ∀ X', inMny (S, (n, s, dg, w) :: r) c n s dg w r = some X' → ∀ g', CfM g' X' → MFr g g' → K 1 g') : Ca (d + 2) m_Mo_inMany [.ref 197, .int c] g (QI K) := by
  obtain ⟨T, ⟨F, St⟩, h28, h5, hn⟩ := id C
  dsimp only at T F St h28 h5 hn
  have h5 : r.length + 1 ≤ 5 := h5
  have M := T.1
  have nlt : n < S.1 := hn _ (List.mem_cons_self ..)
  have n90 : n < 90 := by omega
  have top : hI g 197 28 - 1 = iv r.length := by rw [h28, show ((n, s, dg, w) :: r).length = r.length + 1 from rfl, iv1, iv_sub (by omega), Nat.add_sub_cancel]
  have at8 : ainr (iv r.length) 8 = true := ainr_iv (by omega) (by omega)
  have cl : (iv r.length).toNatClampNeg = r.length := iv_clamp (by omega)
  have an : ainr (iv n) 90 = true := ainr_iv (by omega) n90
  have cn : (iv n).toNatClampNeg = n := iv_clamp (by omega)
  obtain ⟨f1, f2, f3, f4, f5, f6, f7⟩ := F
  have zz : sz (tG S n 0) = false := by rcases hk with hk | hk <;> rw [hk] <;> rfl
  refine w_Mo_inMany ⟨M.o, ?_⟩
  rintro _ rfl
  rw [top]
  simp only [hR_sI, hS_sI, M.o, M.r25, M.s214, M.r24, M.s213, M.r16, M.s206, true_and, at8, cl]
  rw [f2]
  unfold inMny at k0 k1
  by_cases e1 : s = 1
  · rw [if_pos (by rw [e1]; rfl)]
    rw [if_pos e1] at k0
    simp only [if_pos e1] at k1
    exact c_begin C W (Or.inr ⟨h0, n, s, dg, w, r, rfl, nlt, Or.inr (Or.inr ⟨hk, e1⟩)⟩) A.bel h90 (fun q g' F' => and1 (k0 q g' F') (Or.inl rfl)) (fun X' q g' C' F' => and1 (k1 X' q g' C' F') (Or.inr rfl))
  · rw [if_neg (show ¬ iv s = 1 from iv_ne (b := 1) (by omega) (by decide) e1), f1, cn]
    rw [if_neg e1] at k0
    simp only [if_neg e1] at k1
    refine ⟨by decide, an, ?_⟩
    rintro _ rfl
    simp only [hR_sI, hS_sI, M.o, M.r25, M.s214, true_and, at8]
    refine ⟨by decide, ?_⟩
    rintro _ rfl
    have FF : MFr g (sI (sI g 206 n (c - 97)) 214 r.length 1) := ((MFr.refl g).si (by decide)).si (by decide)
    refine c_isName ?_
    by_cases b : nm c = true
    · rw [if_pos b]
      simp only [if_pos b] at k1
      refine and1 (k1 _ rfl _ ?_ FF) (Or.inr rfl)
      refine C.top (((T.tF (j := 4) (by decide)).mono rfl rfl (by rw [hI_o (by omega)]) (fun a h1 h2 => by rw [hI_ne (by omega)]))) rfl (fun k => tG_k (by decide)) (by rw [hI_o (by omega), hI_o (by omega)]) ?_ (fun f hf a h1 h2 => by rw [hI_o (by omega), hI_o (by omega)])
      unfold FrM
      refine ⟨?_, hI_s, ?_, ?_, ?_, by decide, f7⟩
      · rw [hI_o (by omega), hI_o (by omega)]; exact f1
      · intro q; unfold dgOn at q; simp at q
      · intro q; exact absurd q (by decide)
      · intro q; exfalso; unfold waOn at q; rcases hk with hk | hk <;> rw [hk] at q <;> revert q <;> decide
    · rw [if_neg b]
      rw [if_neg b] at k0
      exact k0 rfl _ FF
end SG2
