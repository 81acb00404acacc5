/-- a sign of a text -/
def Sgn (c : Int32) : Prop := ∃ e, e < 256 ∧ c = iv e
theorem di_tab : ∀ e, e < 256 → (decide (iv e < 48) || decide (57 < iv e)) = !di (iv e) := by decide +kernel
theorem wd_tab : ∀ e, e < 256 → decide (iv e - 48 < 1) = decide (iv e < 49) ∧ decide (7 < iv e - 48) = decide (55 < iv e) ∧ decide (4 < iv e - 48) = decide (52 < iv e) := by decide +kernel
theorem c_isDigit {d : Nat} {K : Int32 → Hp → Prop} {g : Hp} {c : Int32} (hc : Sgn c) (k : K (if di c = true then 1 else 0) g) : Ca d m_Mo_isDigit [.ref 197, .int c] g (QI K) := by
  obtain ⟨e, he, rfl⟩ := hc
  have := di_tab e he
  refine w_Mo_isDigit ?_
  by_cases a : iv e < 48
  · rw [if_pos a]
    rw [decide_eq_true a] at this
    have q : di (iv e) = false := by simpa using this.symm
    rw [q] at k; exact k
  · rw [if_neg a]
    rw [decide_eq_false a] at this
    by_cases b : 57 < iv e
    · rw [if_pos b]
      rw [decide_eq_true b] at this
      have q : di (iv e) = false := by simpa using this.symm
      rw [q] at k; exact k
    · rw [if_neg b]
      rw [decide_eq_false b] at this
      have q : di (iv e) = true := by simpa using this.symm
      rw [q] at k; exact k
theorem c_isName {d : Nat} {K : Int32 → Hp → Prop} {g : Hp} {c : Int32} (k : K (if nm c = true then 1 else 0) g) : Ca d m_Mo_isName [.ref 197, .int c] g (QI K) := by
  refine w_Mo_isName ?_
  unfold nm at k
  by_cases a : c < 97
  · rw [if_pos a]; rw [decide_eq_true a] at k; exact k
  · rw [if_neg a]
    rw [decide_eq_false a] at k
    by_cases b : 108 < c
    · rw [if_pos b]; rw [decide_eq_true b] at k; exact k
    · rw [if_neg b]; rw [decide_eq_false b] at k; exact k
/-- the top of the stack is told anew -/
theorem CfM.top {g g' : Hp} {S S' : Tb} {n s dg s' dg' : Nat} {w w' : Int32} {r : List Fm} (C : CfM g (S, (n, s, dg, w) :: r)) (T : TabM g' S') (hu : S'.1 = S.1) (hk : ∀ k, tG S' k 0 = tG S k 0) (h28 : hI g' 197 28 = hI g 197 28)
    (F : FrM g' (tG S n 0) r.length n s' dg' w') (ho : ∀ f, f < r.length → ∀ a, 213 ≤ a → a ≤ 216 → hI g' a f = hI g a f) : CfM g' (S', (n, s', dg', w') :: r) := by
  obtain ⟨-, St, c28, c5, cn⟩ := C
  refine ⟨T, ⟨by rw [hk]; exact F, StkM.mono St.2 ho fun f _ => hk f.1⟩, by rw [h28]; exact c28, c5, fun f hf => ?_⟩
  rw [hu]
  rcases List.mem_cons.mp hf with rfl | hf
  · exact cn (n, s, dg, w) (List.mem_cons_self ..)
  · exact cn f (List.mem_cons_of_mem _ hf)
section SIZ
variable {d : Nat} {K : Int32 → Hp → Prop}
theorem c_inSized {g : Hp} {S : Tb} {n s dg : Nat} {w c : Int32} {r : List Fm} (hc : Sgn c) (C : CfM g (S, (n, s, dg, w) :: r)) (B : Bel S r) (h0 : ¬ S.1 = 0) (hz : sz (tG S n 0) = true)
    (k0 : sgn (S, (n, s, dg, w) :: r) c = none → ∀ g', MFr g g' → K 0 g') (k1 : ∀ X', sgn (S, (n, s, dg, w) :: r) c = some X' → ∀ g', CfM g' X' → MFr g g' → K 1 g')
    (k2 : sgn (S, (n, s, dg, w) :: r) c = sgn2 (S, fin S r) c → ∀ g', CfM g' (S, fin S r) → MFr g g' → K 2 g') : Ca (d + 1) m_Mo_inSized [.ref 197, .int c] g (QI K) := by
  obtain ⟨T, ⟨F, St⟩, h28, h5, hn⟩ := id C
  dsimp only at T F St h28 h5 hn
  have h5 : r.length + 1 ≤ 5 := h5
  have M := T.1
  have nlt : n < S.1 := hn _ (List.mem_cons_self ..)
  have n90 : n < 90 := by have := T.2.2.1; omega
  have top : hI g 197 28 - 1 = iv r.length := by rw [h28, show ((n, s, dg, w) :: r).length = r.length + 1 from rfl, iv1, iv_sub (by omega), Nat.add_sub_cancel]
  have at8 : ainr (iv r.length) 8 = true := ainr_iv (by omega) (by omega)
  have an : ainr (iv n) 90 = true := ainr_iv (by omega) n90
  have cl : (iv r.length).toNatClampNeg = r.length := iv_clamp (by omega)
  have cn : (iv n).toNatClampNeg = n := iv_clamp (by omega)
  obtain ⟨f1, f2, f3, f4, f5, f6, f7⟩ := F
  have eq : sgn (S, (n, s, dg, w) :: r) c = (if s = 0 then (if c - 48 < 1 ∨ (if tG S n 0 = 112 then 7 else 4) < c - 48 then none else some (tF S n 1 (c - 48), (n, 1, dg, w) :: r))
       else if s = 1 ∧ (c = 60 ∨ c = 62 ∨ c = 61) then some (tF S n 2 c, (n, 2, 0, w) :: r)
       else if (s = 2 ∨ (s = 3 ∧ dg < 3)) ∧ di c = true then some (tF S n 3 (tG S n 3 * 10 + c - 48), (n, 3, dg + 1, w) :: r)
       else if s = 2 then none else sgn2 (S, fin S r) c) := by
    unfold sgn; rw [if_neg h0]; dsimp only; rw [if_pos hz]
  have nz : ∀ v, ¬ waOn (tG S n 0) v = true := by
    intro v q
    unfold waOn at q
    simp only [Bool.or_eq_true, Bool.and_eq_true, decide_eq_true_iff] at q
    rcases q with q | q <;> rw [q.1] at hz <;> cases hz
  have last : ¬ (s = 0) → ¬ (s = 1 ∧ (c = 60 ∨ c = 62 ∨ c = 61)) → ¬ ((s = 2 ∨ (s = 3 ∧ dg < 3)) ∧ di c = true) → ¬ s = 2 → Ca d m_Mo_finish [.ref 197] g (QV fun g' => K 2 g') := by
    intro q1 q2 q3 q4
    refine c_finish C B fun g' C' F' => k2 ?_ g' C' F'
    rw [eq, if_neg q1, if_neg q2, if_neg q3, if_neg q4]
  have w153 : (s = 2 ∨ (s = 3 ∧ dg < 3)) → ¬ (s = 1 ∧ (c = 60 ∨ c = 62 ∨ c = 61)) → Wp (d + 1) m_Mo_inSized 153 [some (.ref 197), some (.int c), some (.int (iv r.length)), some (.int (iv n))] [] g (QI K) := by
    intro hs hs1
    refine w_Mo_inSized_153 ⟨M.o, c_isDigit hc ?_⟩
    by_cases a : di c = true
    · rw [if_pos a, if_neg (by decide)]
      simp only [hR_sI, hS_sI, M.o, M.r15, M.s205, M.r26, M.s215, M.r25, M.s214, true_and, at8, an, cl, cn]
      refine ⟨by decide, ?_⟩
      rintro _ rfl
      simp only [hR_sI, hS_sI, M.o, M.r15, M.s205, M.r26, M.s215, M.r25, M.s214, true_and, at8]
      refine ⟨by decide, ?_⟩
      rintro _ rfl
      simp only [hR_sI, hS_sI, M.o, M.r15, M.s205, M.r26, M.s215, M.r25, M.s214, true_and, at8]
      refine ⟨by decide, ?_⟩
      rintro _ rfl
      have e205 : hI g 205 n = tG S n 3 := T.2.2.2.1 3 (by decide) n n90
      have edg : hI g 215 r.length = iv dg := by
        rcases hs with e | ⟨e, _⟩
        · obtain ⟨q1, q2⟩ := f4 e hz
          rw [q1, q2]; rfl
        · exact f3 (by unfold dgOn; rw [e, hz]; rfl)
      have edg' : dg < 3 := by
        rcases hs with e | ⟨_, e⟩
        · have := (f4 e hz).1; omega
        · exact e
      rw [e205, hI_o (by omega), edg, iv1, iv_add]
      refine k1 (tF S n 3 (tG S n 3 * 10 + c - 48), (n, 3, dg + 1, w) :: r) ?_ _ ?_ ((((MFr.refl g).si (by decide)).si (by decide)).si (by decide))
      · rw [eq, if_neg (by omega), if_neg hs1, if_pos ⟨hs, a⟩]
      · refine C.top (((T.tF (j := 3) (by decide)).mono rfl rfl (by rw [hI_o (by omega), hI_o (by omega)]) (fun a h1 h2 => by rw [hI_ne (by omega), hI_ne (by omega)]))) rfl (fun k => tG_k (by decide)) (by rw [hI_o (by omega), hI_o (by omega), hI_o (by omega)]) ?_ (fun f hf a h1 h2 => by rw [hI_o (by omega), hI_o (by omega), hI_o (by omega)])
        unfold FrM
        refine ⟨?_, ?_, ?_, ?_, ?_, ?_, ?_⟩
        · rw [hI_o (by omega), hI_o (by omega), hI_o (by omega)]; exact f1
        · exact hI_s
        · intro _; rw [hI_o (by omega)]; exact hI_s
        · intro q; exact absurd q (by decide)
        · intro q; exact absurd q (nz 3)
        · decide
        · exact edg'
    · rw [if_neg a, if_pos rfl]
      simp only [hR_sI, hS_sI, M.o, M.r25, M.s214, true_and, at8, cl]
      rw [f2]
      by_cases b : s = 2
      · rw [if_pos (by rw [b]; rfl)]
        refine k0 ?_ g (MFr.refl g)
        rw [eq, if_neg (by omega), if_neg (by omega), if_neg (fun q => a q.2), if_pos b]
      · rw [if_neg (show ¬ iv s = 2 from iv_ne (b := 2) (by omega) (by decide) b)]
        exact last (by omega) hs1 (fun q => a q.2) b
  have w123 : ¬ s = 0 → ¬ (s = 1 ∧ (c = 60 ∨ c = 62 ∨ c = 61)) → Wp (d + 1) m_Mo_inSized 123 [some (.ref 197), some (.int c), some (.int (iv r.length)), some (.int (iv n))] [] g (QI K) := by
    intro q0 q1
    refine w_Mo_inSized_123 ?_
    simp only [hR_sI, hS_sI, M.o, M.r25, M.s214, M.r26, M.s215, true_and, at8, cl]
    rw [f2]
    by_cases b : s = 2
    · rw [if_pos (by rw [b]; rfl)]
      exact w153 (Or.inl b) q1
    · rw [if_neg (show ¬ iv s = 2 from iv_ne (b := 2) (by omega) (by decide) b)]
      by_cases e : s = 3
      · rw [if_pos (by rw [e]; rfl), f3 (by unfold dgOn; rw [e, hz]; rfl)]
        by_cases l : dg < 3
        · rw [if_pos (show iv dg < 3 from (iv_lt (b := 3) (by omega) (by omega)).mpr l)]
          exact w153 (Or.inr ⟨e, l⟩) q1
        · rw [if_neg (show ¬ iv dg < 3 from fun q => l ((iv_lt (b := 3) (by omega) (by omega)).mp q))]
          exact last q0 q1 (by omega) b
      · rw [if_neg (show ¬ iv s = 3 from iv_ne (b := 3) (by omega) (by decide) e)]
        exact last q0 q1 (by omega) b
  have w100 : s = 1 → (c = 60 ∨ c = 62 ∨ c = 61) → Wp (d + 1) m_Mo_inSized 100 [some (.ref 197), some (.int c), some (.int (iv r.length)), some (.int (iv n))] [] g (QI K) := by
    intro q0 q1
    refine w_Mo_inSized_100 ?_
    simp only [hR_sI, hS_sI, M.o, M.r14, M.s204, M.r25, M.s214, M.r26, M.s215, true_and, at8, an, cl, cn]
    refine ⟨by decide, ?_⟩
    rintro _ rfl
    simp only [hR_sI, hS_sI, M.o, M.r14, M.s204, M.r25, M.s214, M.r26, M.s215, true_and, at8]
    refine ⟨by decide, ?_⟩
    rintro _ rfl
    simp only [hR_sI, hS_sI, M.o, M.r14, M.s204, M.r25, M.s214, M.r26, M.s215, true_and, at8]
    refine ⟨by decide, ?_⟩
    rintro _ rfl
    refine k1 (tF S n 2 c, (n, 2, 0, w) :: r) ?_ _ ?_ ((((MFr.refl g).si (by decide)).si (by decide)).si (by decide))
    · rw [eq, if_neg (by omega), if_pos ⟨q0, q1⟩]
    · refine C.top (((T.tF (j := 2) (by decide)).mono rfl rfl (by rw [hI_o (by omega), hI_o (by omega)]) (fun a h1 h2 => by rw [hI_ne (by omega), hI_ne (by omega)]))) rfl (fun k => tG_k (by decide)) (by rw [hI_o (by omega), hI_o (by omega), hI_o (by omega)]) ?_ (fun f hf a h1 h2 => by rw [hI_o (by omega), hI_o (by omega), hI_o (by omega)])
      unfold FrM
      refine ⟨?_, ?_, ?_, ?_, ?_, ?_, ?_⟩
      · rw [hI_o (by omega), hI_o (by omega), hI_o (by omega)]; exact f1
      · rw [hI_o (by omega)]; exact hI_s
      · intro q; unfold dgOn at q; simp at q
      · intro _ _; exact ⟨rfl, hI_s⟩
      · intro q; exact absurd q (nz 2)
      · decide
      · decide
  obtain ⟨e, he, hce⟩ := hc
  obtain ⟨t1, t2, t3⟩ := wd_tab e he
  rw [← hce] at t1 t2 t3
  refine w_Mo_inSized ⟨M.o, ?_⟩
  rintro _ rfl
  rw [top]
  simp only [hR_sI, hS_sI, M.o, M.r24, M.s213, M.r25, M.s214, M.r12, M.s202, M.r13, M.s203, true_and, at8, cl]
  rintro _ rfl
  rw [f1, f2]
  have w1 : c - 48 < 1 ↔ c < 49 := by simpa using t1
  have w2 : 7 < c - 48 ↔ 55 < c := by simpa using t2
  have w3 : 4 < c - 48 ↔ 52 < c := by simpa using t3
  by_cases z : s = 0
  · rw [if_pos (by rw [z]; rfl)]
    by_cases a : c < 49
    · rw [if_pos a]
      refine k0 ?_ g (MFr.refl g)
      rw [eq, if_pos z, if_pos (Or.inl (w1.mpr a))]
    · rw [if_neg a, cn, T.kd n90]
      refine ⟨an, ?_⟩
      have good : ¬ (c - 48 < 1 ∨ (if tG S n 0 = 112 then 7 else 4) < c - 48) → ¬ 203 = 1 ∧ ainr (iv n) 90 = true ∧ ∀ h13 : Hp, h13 = sI g 203 n (c - 48) → (¬ 214 = 1 ∧ ∀ h17 : Hp, h17 = sI h13 214 r.length (1 : Int32) → K (1 : Int32) h17) := by
        intro q
        refine ⟨by decide, an, ?_⟩
        rintro _ rfl
        refine ⟨by decide, ?_⟩
        rintro _ rfl
        refine k1 (tF S n 1 (c - 48), (n, 1, dg, w) :: r) ?_ _ ?_ (((MFr.refl g).si (by decide)).si (by decide))
        · rw [eq, if_pos z, if_neg q]
        · refine C.top (((T.tF (j := 1) (by decide)).mono rfl rfl (by rw [hI_o (by omega)]) (fun a h1 h2 => by rw [hI_ne (by omega)]))) rfl (fun k => tG_k (by decide)) (by rw [hI_o (by omega), hI_o (by omega)]) ?_ (fun f hf a h1 h2 => by rw [hI_o (by omega), hI_o (by omega)])
          unfold FrM
          refine ⟨?_, ?_, ?_, ?_, ?_, ?_, ?_⟩
          · rw [hI_o (by omega), hI_o (by omega)]; exact f1
          · exact hI_s
          · intro q; unfold dgOn at q; simp at q
          · intro q; exact absurd q (by decide)
          · intro q; exact absurd q (nz 1)
          · decide
          · exact f7
      have bad : (c - 48 < 1 ∨ (if tG S n 0 = 112 then 7 else 4) < c - 48) → K 0 g := by
        intro q
        refine k0 ?_ g (MFr.refl g)
        rw [eq, if_pos z, if_pos q]
      by_cases p : tG S n 0 = 112
      · rw [if_pos p] at good bad
        rw [if_pos p]
        by_cases b : 55 < c
        · rw [if_pos b]; exact bad (Or.inr (w2.mpr b))
        · rw [if_neg b]
          obtain ⟨g1, g2, g3⟩ := good (fun q => by rcases q with q | q; exact a (w1.mp q); exact b (w2.mp q))
          refine ⟨g1, g2, ?_⟩
          rintro _ rfl
          simp only [hR_sI, hS_sI, M.o, M.r25, M.s214, true_and]
          exact ⟨(g3 _ rfl).1, at8, (g3 _ rfl).2⟩
      · rw [if_neg p] at good bad
        rw [if_neg p]
        by_cases b : 52 < c
        · rw [if_pos b]; exact bad (Or.inr (w3.mpr b))
        · rw [if_neg b]
          obtain ⟨g1, g2, g3⟩ := good (fun q => by rcases q with q | q; exact a (w1.mp q); exact b (w3.mp q))
          refine ⟨g1, g2, ?_⟩
          rintro _ rfl
          simp only [hR_sI, hS_sI, M.o, M.r25, M.s214, true_and]
          exact ⟨(g3 _ rfl).1, at8, (g3 _ rfl).2⟩
  · rw [if_neg (show ¬ iv s = 0 from iv_ne (b := 0) (by omega) (by decide) z)]
    by_cases o : s = 1
    · rw [if_pos (by rw [o]; rfl)]
      by_cases a1 : c = 60
      · rw [if_pos a1]; exact w100 o (Or.inl a1)
      · rw [if_neg a1]
        by_cases a2 : c = 62
        · rw [if_pos a2]; exact w100 o (Or.inr (Or.inl a2))
        · rw [if_neg a2]
          by_cases a3 : c = 61
          · rw [if_pos a3]; exact w100 o (Or.inr (Or.inr a3))
          · rw [if_neg a3]
            refine w123 z fun q => ?_
            rcases q.2 with q | q | q
            · exact a1 q
            · exact a2 q
            · exact a3 q
    · rw [if_neg (show ¬ iv s = 1 from iv_ne (b := 1) (by omega) (by decide) o)]
      exact w123 z fun q => o q.1
end SIZ
