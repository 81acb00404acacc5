theorem u_bgn {X X' : Cf} {c : Int32} (h : bgn X c = some X') : X'.1.1 ≤ X.1.1 + 1 := by
  unfold bgn at h
  split at h
  · cases h
  · rw [← Option.some.inj h]; exact Nat.le_refl _
theorem u_sgn2 {X X' : Cf} {c : Int32} (h : sgn2 X c = some X') : X'.1.1 ≤ X.1.1 + 1 := by
  have f : ∀ {Y Z : Cf}, some Y = some Z → Y.1.1 = X.1.1 → Z.1.1 ≤ X.1.1 + 1 := fun e q => by rw [← Option.some.inj e, q]; exact Nat.le_succ _
  unfold sgn2 at h
  split at h
  · cases h
  · split at h
    · unfold inStr at h
      split at h
      · split at h
        · exact f h rfl
        · split at h
          · exact f h rfl
          · cases h
      · split at h
        · exact u_bgn h
        · split at h
          · split at h
            · exact f h rfl
            · cases h
          · split at h
            · exact f h rfl
            · cases h
    · split at h
      · unfold inCho at h
        split at h
        · exact u_bgn h
        · split at h
          · split at h
            · exact f h rfl
            · cases h
          · split at h
            · split at h
              · exact f h rfl
              · cases h
            · split at h
              · split at h
                · exact f h rfl
                · cases h
              · split at h
                · exact f h rfl
                · split at h
                  · exact f h rfl
                  · split at h
                    · exact f h rfl
                    · cases h
      · unfold inMny at h
        split at h
        · exact u_bgn h
        · split at h
          · exact f h rfl
          · cases h
theorem u_sgn {X X' : Cf} {c : Int32} (h : sgn X c = some X') : X'.1.1 ≤ X.1.1 + 1 := by
  have f : ∀ {Y Z : Cf}, some Y = some Z → Y.1.1 = X.1.1 → Z.1.1 ≤ X.1.1 + 1 := fun e q => by rw [← Option.some.inj e, q]; exact Nat.le_succ _
  unfold sgn at h
  split at h
  · exact u_bgn h
  · split at h
    · cases h
    · split at h
      · rename_i n s dg w r _ _
        generalize (if tG X.1 n 0 = 112 then (7 : Int32) else 4) = lim at h
        split at h
        · split at h
          · cases h
          · exact f h rfl
        · split at h
          · exact f h rfl
          · split at h
            · exact f h rfl
            · split at h
              · cases h
              · exact u_sgn2 (X := (X.1, fin X.1 r)) h
      · exact u_sgn2 h
theorem stk_at {g : Hp} {S : Tb} : ∀ {st : List Fm}, StkM g S st → ∀ f, f < st.length → ∃ x, x ∈ st ∧ hI g 213 f = iv x.1
  | [], _, f, hf => absurd hf (Nat.not_lt_zero _)
  | (n, s, dg, w) :: r, T, f, hf => by
    by_cases e : f = r.length
    · exact ⟨_, List.mem_cons_self .., by rw [e]; exact T.1.1⟩
    · have hf : f < r.length + 1 := hf
      obtain ⟨x, h1, h2⟩ := stk_at T.2 f (by omega)
      exact ⟨x, List.mem_cons_of_mem _ h1, h2⟩
theorem stk_all {g : Hp} {S : Tb} : ∀ {st : List Fm}, StkM g S st → ∀ x, x ∈ st → ∃ f, f < st.length ∧ hI g 213 f = iv x.1
  | (n, s, dg, w) :: r, T, x, hx => by
    rcases List.mem_cons.mp hx with rfl | hx
    · exact ⟨r.length, Nat.lt_succ_self _, T.1.1⟩
    · obtain ⟨f, h1, h2⟩ := stk_all T.2 x hx
      exact ⟨f, Nat.lt_succ_of_lt h1, h2⟩
section SCAN
variable {d : Nat} {K : Int32 → Hp → Prop}
theorem whole_75 {g : Hp} {S : Tb} {r : List Fm} (T : TabM g S) (St : StkM g S r) (h28 : hI g 197 28 = iv (r.length + 1)) (h5 : r.length < 5) (hn : ∀ f, f ∈ r → f.1 < S.1) (k : K (if ars S r = true then 1 else 0) g) : ∀ (m f : Nat), f + m = r.length → (∀ i, i < f → ∀ x : Fm, x ∈ r → hI g 213 i = iv x.1 → tG S x.1 0 = 42 ∨ tG S x.1 0 = 47) →
    Wp (d + 1) m_Mo_wholeNow 75 [some (.ref 197), some (.int (iv f))] [] g (QI K)
  | 0, f, hm, ha => by
    refine w_Mo_wholeNow_75 ⟨T.1.o, ?_⟩
    rw [h28, iv1, iv_sub (by omega), Nat.add_sub_cancel, if_neg (fun q => by have := (iv_lt (by omega) (by omega)).mp q; omega)]
    have : ars S r = true := by
      unfold ars
      rw [List.all_eq_true]
      intro x hx
      obtain ⟨i, h1, h2⟩ := stk_all St x hx
      exact decide_eq_true (ha i (by omega) x hx h2)
    rw [this] at k; exact k
  | m + 1, f, hm, ha => by
    have M := T.1
    refine w_Mo_wholeNow_75 ⟨M.o, ?_⟩
    have hr := T.2.2.1
    obtain ⟨x, x1, x2⟩ := stk_at St f (by omega)
    have xn := hn x x1
    rw [h28, iv1, iv_sub (by omega), Nat.add_sub_cancel, if_pos ((iv_lt (by omega) (by omega)).mpr (by omega))]
    simp only [hR_sI, hS_sI, M.o, M.r24, M.s213, M.r12, M.s202, true_and]
    rw [iv_clamp (by omega), x2, iv_clamp (by omega), T.kd (by omega)]
    refine ⟨ainr_iv (by omega) (by omega), ainr_iv (by omega) (by omega), ?_⟩
    have go : (tG S x.1 0 = 42 ∨ tG S x.1 0 = 47) → ∀ v : Int32, v = iv f + iv 1 → Wp (d + 1) m_Mo_wholeNow 75 [some (.ref 197), some (.int v)] [] g (QI K) := by
      rintro q _ rfl
      rw [iv_add]
      refine whole_75 T St h28 h5 hn k m (f + 1) (by omega) fun i hi y hy e => ?_
      by_cases c : i = f
      · rw [c, x2] at e
        have yn := hn y hy
        have : y.1 = x.1 := ((iv_inj (by omega) (by omega)).mp e).symm
        rw [this]; exact q
      · exact ha i (by omega) y hy e
    by_cases c1 : tG S x.1 0 = 42
    · rw [if_pos c1]; exact go (Or.inl c1)
    rw [if_neg c1]
    by_cases c2 : tG S x.1 0 = 47
    · rw [if_pos c2]; exact go (Or.inr c2)
    rw [if_neg c2]
    have : ars S r = false := by
      cases e : ars S r with
      | false => rfl
      | true =>
        unfold ars at e
        rw [List.all_eq_true] at e
        have := of_decide_eq_true (e x x1)
        rcases this with q | q
        · exact absurd q c1
        · exact absurd q c2
    rw [this] at k; exact k
theorem c_wholeNow {g : Hp} {X : Cf} (C : CfM g X) (k : K (if whl X = true then 1 else 0) g) : Ca (d + 1) m_Mo_wholeNow [.ref 197] g (QI K) := by
  obtain ⟨S, st⟩ := X
  obtain ⟨T, St, h28, h5, hn⟩ := C
  dsimp only at T St h28 h5 hn
  have M := T.1
  unfold whl at k
  dsimp only at k
  refine w_Mo_wholeNow ⟨M.o, ?_⟩
  have hu := T.2.2.1
  rw [T.2.1]
  by_cases h0 : S.1 = 0
  · rw [if_pos (by rw [h0]; rfl)]
    rw [decide_eq_true h0] at k; exact k
  rw [if_neg (show ¬ iv S.1 = 0 from iv_ne (b := 0) (by omega) (by decide) h0), h28]
  rw [decide_eq_false h0] at k
  match st, St, h28, h5, hn, k with
  | [], St, h28, h5, hn, k => rw [if_pos (by rfl)]; exact k
  | (n, s, dg, w) :: r, St, h28, h5, hn, k =>
    have h5 : r.length + 1 ≤ 5 := h5
    have nlt : n < S.1 := hn _ (List.mem_cons_self ..)
    have top : iv ((n, s, dg, w) :: r).length - 1 = iv r.length := by rw [show ((n, s, dg, w) :: r).length = r.length + 1 from rfl, iv1, iv_sub (by omega), Nat.add_sub_cancel]
    have at8 : ainr (iv r.length) 8 = true := ainr_iv (by omega) (by omega)
    have cl : (iv r.length).toNatClampNeg = r.length := iv_clamp (by omega)
    rw [if_neg (show ¬ iv ((n, s, dg, w) :: r).length = 0 from iv_ne (b := 0) (show r.length + 1 < _ by omega) (by decide) (fun q => by cases q)), top]
    simp only [hR_sI, hS_sI, M.o, M.r24, M.s213, M.r12, M.s202, M.r25, M.s214, true_and, at8, cl]
    rw [St.1.1, iv_clamp (by omega), T.kd (by omega)]
    refine ⟨ainr_iv (by omega) (by omega), c_sized ?_⟩
    by_cases hz : sz (tG S n 0) = true
    · rw [if_pos hz, if_neg (by decide)]
      replace k : K (if (!false && (sz (tG S n 0) && decide (s = 1 ∨ s = 3) && ars S r)) = true then 1 else 0) g := k
      rw [hz] at k
      simp only [hR_sI, hS_sI, M.o, M.r25, M.s214, true_and, h28, top, at8, cl]
      rw [St.1.2.1]
      have s5 := St.1.2.2.2.2.2.1
      have go : (s = 1 ∨ s = 3) → Wp (d + 1) m_Mo_wholeNow 75 [some (.ref 197), some (.int (0 : Int32))] [] g (QI K) := by
        intro q
        refine whole_75 T St.2 h28 (by omega) (fun f hf => hn f (List.mem_cons_of_mem _ hf)) ?_ r.length 0 (by omega) fun i hi => absurd hi (Nat.not_lt_zero _)
        rw [decide_eq_true q] at k
        exact k
      by_cases s1 : s = 1
      · rw [if_pos (by rw [s1]; rfl)]; exact go (Or.inl s1)
      · rw [if_neg (show ¬ iv s = 1 from iv_ne (b := 1) (by omega) (by decide) s1)]
        by_cases s3 : s = 3
        · rw [if_pos (by rw [s3]; rfl)]; exact go (Or.inr s3)
        · rw [if_neg (show ¬ iv s = 3 from iv_ne (b := 3) (by omega) (by decide) s3)]
          rw [decide_eq_false (by omega)] at k
          exact k
    · rw [if_neg hz, if_pos rfl]
      replace k : K (if (!false && (sz (tG S n 0) && decide (s = 1 ∨ s = 3) && ars S r)) = true then 1 else 0) g := k
      rw [Bool.eq_false_iff.mpr hz] at k
      exact k
/-- the text that the scan reads: the one, or the formed one -/
def Src (g : Hp) (x : Int32) (t : Nat → Int32) (N : Nat) : Prop := Ends t N ∧ (∀ i, i < N → Sgn (t i)) ∧ ((x = 0 ∧ hI g 197 2 = iv N ∧ ∀ i, i < N → hI g 198 i = t i) ∨ (x = 1 ∧ hI g 197 4 = iv N ∧ ∀ i, i < N → hI g 199 i = t i))
theorem Src.fr {g g' : Hp} {x : Int32} {t : Nat → Int32} {N : Nat} (S : Src g x t N) (F : MFr g g') : Src g' x t N := by
  refine ⟨S.1, S.2.1, ?_⟩
  rw [F.2.2 2 (by decide) (by decide), F.2.2 4 (by decide) (by decide), F.2.1 198 (by decide) (by omega), F.2.1 199 (by decide) (by omega)]
  exact S.2.2
theorem scan_28 {g0 : Hp} {x : Int32} {t : Nat → Int32} {N : Nat} {o : Rp} (k0 : ∀ j, o = (j, none) → ∀ g', MFr g0 g' → K (iv j) g') (k1 : ∀ j S', o = (j, some S') → ∀ g', TabM g' S' → MFr g0 g' → K (-2) g') :
    ∀ (m i : Nat) (X : Cf) (g : Hp), i + m = N → Src g x t N → CfM g X → Iv X → X.1.1 ≤ i → MFr g0 g → run t m i X = o → Wp (d + 4) m_Mo_scan 28 [some (.ref 197), some (.int x), some (.int (iv N)), some (.int (iv i))] [] g (QI K)
  | 0, i, X, g, hm, Sr, C, I, hu, F, e => by
    refine w_Mo_scan_28 ?_
    rw [if_neg (fun q => by have := Sr.1.1; have := (iv_lt (by omega) (by omega)).mp q; omega)]
    refine ⟨C.1.1.o, c_wholeNow C ?_⟩
    unfold run at e
    by_cases w : whl X = true
    · rw [if_pos w, if_neg (by decide)]
      rw [if_pos w] at e
      exact k1 _ _ e.symm g C.1 F
    · rw [if_neg w, if_pos rfl]
      rw [if_neg w] at e
      have : i = N := by omega
      subst this
      exact k0 _ e.symm g F
  | m + 1, i, X, g, hm, Sr, C, I, hu, F, e => by
    have n90 := Sr.1.1
    have M := C.1.1
    refine w_Mo_scan_28 ?_
    rw [if_pos ((iv_lt (by omega) (by omega)).mpr (by omega))]
    have key : Ca (d + 3) m_Mo_sign [.ref 197, .int (t i)] g (QI fun v9 h10 => if v9 = 0 then K (iv i) h10 else ∀ v12 : Int32, v12 = iv i + 1 → Wp (d + 4) m_Mo_scan 28 [some (.ref 197), some (.int x), some (.int (iv N)), some (.int v12)] [] h10 (QI K)) := by
      unfold run at e
      refine c_sign (Sr.2.1 i (by omega)) C I (by omega) (fun q g' F' => ?_) fun X' q g' C' F' => ?_
      · rw [if_pos rfl]
        rw [q] at e
        exact k0 _ e.symm g' (F.trans F')
      · rw [if_neg (by decide)]
        rintro _ rfl
        rw [q] at e
        rw [iv1, iv_add]
        have := u_sgn q
        exact scan_28 k0 k1 m (i + 1) X' g' (by omega) (Sr.fr F') C' (iv_sgn I q) (by omega) (F.trans F') e
    rcases Sr.2.2 with ⟨h0, -, h2⟩ | ⟨h0, -, h2⟩
    · rw [if_pos h0]
      simp only [hR_sI, hS_sI, M.o, M.r1, M.s198, true_and]
      rw [iv_clamp (by omega), h2 i (by omega)]
      exact ⟨ainr_iv (by omega) (by omega), key⟩
    · rw [if_neg (by rw [h0]; decide)]
      simp only [hR_sI, hS_sI, M.o, M.r3, M.s199, true_and]
      rw [iv_clamp (by omega), h2 i (by omega)]
      exact ⟨ainr_iv (by omega) (by omega), key⟩
/-- the Model's arrays, as a table's numbers -/
def sF0 (g : Hp) : Nat → Nat → Int32 := fun k j => if j < 7 then hI g (202 + j) k else 0
theorem sF0_eq {g g' : Hp} (h : ∀ k j, j < 7 → hI g' (202 + j) k = hI g (202 + j) k) : sF0 g' = sF0 g := by
  funext k j
  unfold sF0
  by_cases c : j < 7
  · rw [if_pos c, if_pos c]; exact h k j c
  · rw [if_neg c, if_neg c]
/-- **the scan says what the descent says** -/
theorem c_scan {g : Hp} {x : Int32} {t : Nat → Int32} {N : Nat} (M : ShM g) (Sr : Src g x t N) {R : Rp} (hR : pT t 5 0 0 (-1) (-1) (-1) (0, sF0 g, fun _ => 0) = R)
    (k0 : (R.2 = none ∨ ¬ R.1 = N) → R.1 ≤ N → ∀ g', MFr g g' → K (iv R.1) g')
    (k1 : ∀ S', R = (N, some S') → WfP S' → 0 < S'.1 → ∀ g', TabM g' S' → MFr g g' → K (-2) g') : Ca (d + 4) m_Mo_scan [.ref 197, .int x] g (QI K) := by
  have top := sim_top Sr.1 (sF0 g) (fun _ => 0)
  rw [hR] at top
  refine w_Mo_scan ⟨M.o, ?_⟩
  rintro _ rfl _ rfl
  have FF : MFr g (sI (sI g 197 23 0) 197 28 0) := ((MFr.refl g).s7 (Or.inl rfl)).s7 (Or.inr rfl)
  have T0 : TabM (sI (sI g 197 23 0) 197 28 0) (0, sF0 g, fun _ => 0) :=
    ⟨M.same rfl rfl, by rw [hI_o (by omega)]; exact hI_s, Nat.zero_le _, fun j hj k hk => by rw [hI_ne (by omega), hI_ne (by omega)]; exact (if_pos hj).symm, fun k hk => absurd hk (Nat.not_lt_zero _), fun p hp => absurd hp (Nat.not_lt_zero _)⟩
  have C0 : CfM (sI (sI g 197 23 0) 197 28 0) ((0, sF0 g, fun _ => 0), []) := ⟨T0, trivial, hI_s, Nat.zero_le _, fun f hf => nomatch hf⟩
  have I0 : Iv ((0, sF0 g, fun _ => 0), []) := ⟨fun k hk => absurd hk (Nat.not_lt_zero _), trivial⟩
  have Sr' := Sr.fr FF
  have key : Wp (d + 4) m_Mo_scan 28 [some (.ref 197), some (.int x), some (.int (iv N)), some (.int (iv 0))] [] (sI (sI g 197 23 0) 197 28 0) (QI K) := by
    match R, top, k0, k1 with
    | (j, none), top, k0, k1 =>
      refine scan_28 (o := (j, none)) (g0 := g) (fun j' e g' F => ?_) (fun j' S' e => by cases e) N 0 _ _ (Nat.zero_add N) Sr' C0 I0 (Nat.le_refl _) FF top.1
      cases e
      exact k0 (Or.inl rfl) top.2 g' F
    | (j, some S'), top, k0, k1 =>
      obtain ⟨t1, t2, t3, t4⟩ := top
      refine scan_28 (g0 := g) (fun j' e g' F => ?_) (fun j' S2 e g' T F => ?_) N 0 _ _ (Nat.zero_add N) Sr' C0 I0 (Nat.le_refl _) FF t4
      · by_cases q : j = N
        · rw [if_pos q] at e; cases e
        · rw [if_neg q] at e
          cases e
          exact k0 (Or.inr q) t1 g' F
      · by_cases q : j = N
        · rw [if_pos q] at e
          cases e
          exact k1 S' (by rw [q]) t2 t3 g' T F
        · rw [if_neg q] at e; cases e
  rcases Sr'.2.2 with ⟨h0, h1, -⟩ | ⟨h0, h1, -⟩
  · rw [if_pos h0]
    rintro _ rfl
    rw [h1]; exact key
  · rw [if_neg (by rw [h0]; decide)]
    rintro _ rfl
    rw [h1]; exact key
end SCAN
