/-! a type begins -/
/-- the Model's stores for a new node -/
def nw9 (g : Hp) (u : Nat) (c : Int32) : Hp := sI (sI (sI (sI (sI (sI (sI (sI (sI g 197 23 (iv (u + 1))) 202 u c) 204 u 0) 205 u 0) 210 u (-1)) 211 u (-1)) 212 u (-1)) 207 u (-1)) 208 u (-1)
theorem nw9_o {g : Hp} {u : Nat} {c : Int32} {a k : Nat} (h : ¬ k = u ∨ a = 203 ∨ a = 206 ∨ a = 209 ∨ 212 < a ∨ a < 202) (h' : ¬ (a = 197 ∧ k = 23)) : hI (nw9 g u c) a k = hI g a k := by
  unfold nw9
  rw [hI_o (by omega), hI_o (by omega), hI_o (by omega), hI_o (by omega), hI_o (by omega), hI_o (by omega), hI_o (by omega), hI_o (by omega), hI_o (by omega)]
theorem nw9_fr {g : Hp} {u : Nat} {c : Int32} : MFr g (nw9 g u c) := ((((((((((MFr.refl g).s7 (Or.inl rfl)).si (by decide)).si (by decide)).si (by decide)).si (by decide)).si (by decide)).si (by decide)).si (by decide)).si (by decide))
theorem nw9_u {g : Hp} {u : Nat} {c : Int32} : hI (nw9 g u c) 197 23 = iv (u + 1) ∧ hI (nw9 g u c) 202 u = c ∧ hI (nw9 g u c) 204 u = 0 ∧ hI (nw9 g u c) 205 u = 0 ∧ hI (nw9 g u c) 210 u = -1 ∧ hI (nw9 g u c) 211 u = -1 ∧ hI (nw9 g u c) 212 u = -1 ∧ hI (nw9 g u c) 207 u = -1 ∧ hI (nw9 g u c) 208 u = -1 := by
  unfold nw9
  refine ⟨?_, ?_, ?_, ?_, ?_, ?_, ?_, ?_, ?_⟩ <;> simp [hI_sI]
/-- the table behind it -/
theorem tab_nw9 {g g2 : Hp} {S : Tb} {c own cs inh : Int32} (h90 : S.1 < 90) (T : TabM g S)
    (e7 : hI g2 207 S.1 = own) (e8 : hI g2 208 S.1 = cs) (o : ∀ a k, 202 ≤ a → a < 209 → (¬ a = 207 ∧ ¬ a = 208 ∨ ¬ k = S.1) → hI g2 a k = hI (nw9 g S.1 c) a k) {par : Nat} :
    ∀ j, j < 7 → ∀ k, k < 90 → hI g2 (202 + j) k = tG (tB S c own cs inh par) k j := by
  intro j hj k hk
  obtain ⟨-, u2, u3, u4, -, -, -, -, -⟩ := nw9_u (g := g) (u := S.1) (c := c)
  have old := T.2.2.2.1
  rw [tG_tB]
  by_cases e : k = S.1
  · subst e
    match j, hj with
    | 0, _ => rw [o 202 _ (by omega) (by omega) (by omega)]; simp [u2]
    | 1, _ => rw [o 203 _ (by omega) (by omega) (by omega), nw9_o (by omega) (by omega), old 1 (by decide) _ hk]; simp
    | 2, _ => rw [o 204 _ (by omega) (by omega) (by omega)]; simp [u3]
    | 3, _ => rw [o 205 _ (by omega) (by omega) (by omega)]; simp [u4]
    | 4, _ => rw [o 206 _ (by omega) (by omega) (by omega), nw9_o (by omega) (by omega), old 4 (by decide) _ hk]; simp
    | 5, _ => simp [e7]
    | 6, _ => simp [e8]
    | j + 7, hj => omega
  · simp only [e, false_and, if_false]
    rw [o _ k (by omega) (by omega) (by omega), nw9_o (by omega) (by omega), old j hj k hk]
section BEG
variable {d : Nat} {K : Int32 → Hp → Prop}
theorem c_begin_227 {g0 g : Hp} {S' : Tb} {st : List Fm} {n : Nat} {c x2 : Int32} {y y' : Option Value} (T : TabM g S') (St : StkM g S' st) (B : Bel S' st) (h28 : hI g 197 28 = iv st.length) (h5 : st.length < 5) (hn : S'.1 = n + 1) (hk : tG S' n 0 = c)
    (hx : x2 = if sm c = true then 1 else 0) (F0 : MFr g0 g) (k1 : ∀ g', CfM g' (S', if sm c = true then fin S' st else (n, 0, 0, 0) :: st) → MFr g0 g' → K 1 g') : Wp (d + 1) m_Mo_beginType 227 [some (.ref 197), y, some (.int x2), y', some (.int (iv n))] [] g (QI K) := by
  have M := T.1
  have n90 := T.2.2.1
  refine w_Mo_beginType_227 ?_
  simp only [hR_sI, hS_sI, M.o, M.r24, M.s213, M.r25, M.s214, true_and, h28]
  refine ⟨by decide, ainr_iv (by omega) (by omega), ?_⟩
  rintro _ rfl
  simp only [hR_sI, hS_sI, M.o, M.r24, M.s213, M.r25, M.s214, true_and]
  rw [hI_o (by omega), h28, iv_clamp (by omega)]
  refine ⟨by decide, ainr_iv (by omega) (by omega), ?_⟩
  rintro _ rfl _ rfl
  rw [hI_o (by omega), hI_o (by omega), h28, iv1, iv_add]
  have F : MFr g0 (sI (sI (sI g 213 st.length (iv n)) 214 st.length 0) 197 28 (iv (st.length + 1))) := ((F0.si (by decide)).si (by decide)).s7 (Or.inr rfl)
  have C : CfM (sI (sI (sI g 213 st.length (iv n)) 214 st.length 0) 197 28 (iv (st.length + 1))) (S', (n, 0, 0, 0) :: st) := by
    refine ⟨T.mono rfl rfl (by rw [hI_o (by omega), hI_o (by omega), hI_o (by omega)]) (fun a h1 h2 => by rw [hI_ne (by omega), hI_ne (by omega), hI_ne (by omega)]), ⟨?_, St.mono (fun f hf a h1 h2 => by rw [hI_o (by omega), hI_o (by omega), hI_o (by omega)]) fun _ _ => rfl⟩, hI_s, h5, fun f hf => ?_⟩
    · show FrM _ (tG S' n 0) st.length n 0 0 0
      unfold FrM
      refine ⟨?_, ?_, ?_, ?_, ?_, ?_, ?_⟩
      · rw [hI_o (by omega), hI_o (by omega)]; exact hI_s
      · rw [hI_o (by omega)]; exact hI_s
      · intro q; unfold dgOn at q; simp at q
      · intro q; exact absurd q (by decide)
      · intro q; unfold waOn at q; simp at q
      · decide
      · decide
    · rcases List.mem_cons.mp hf with rfl | hf
      · show n < S'.1; omega
      · exact (B f hf).1
  by_cases e : sm c = true
  · rw [if_pos e] at hx k1
    rw [hx, if_neg (by decide)]
    exact c_finish C B fun g' C' F' => k1 g' C' (F.trans F')
  · rw [if_neg e] at hx k1
    rw [hx, if_pos rfl]
    exact k1 _ C F
theorem c_begin_98 {g : Hp} {S : Tb} {st : List Fm} {c x2 : Int32} {y y' : Option Value} (C : CfM g (S, st)) (W : WfP S) (R : Rdy S st) (B : Bel S st) (h90 : S.1 < 90) (h5 : st.length < 5) (hx : x2 = if sm c = true then 1 else 0)
    (k1 : ∀ g', CfM g' (bg (S, st) c, if sm c = true then fin (bg (S, st) c) st else (S.1, 0, 0, 0) :: st) → MFr g g' → K 1 g') : Wp (d + 1) m_Mo_beginType 98 [some (.ref 197), some (.int c), some (.int x2), y, y'] [] g (QI K) := by
  obtain ⟨T, St, h28, h5', hn⟩ := C
  dsimp only at T St h28 h5' hn
  have M := T.1
  have h23 := T.2.1
  refine w_Mo_beginType_98 ?_
  refine ⟨M.o, ?_⟩
  rintro _ rfl _ rfl
  have e23 : hI g 197 23 + 1 = iv (S.1 + 1) := by rw [h23, iv1, iv_add]
  rw [e23, h23]
  have ai : ainr (iv S.1) 90 = true := ainr_iv (by omega) (by omega)
  simp only [hR_sI, hS_sI, M.o, M.r12, M.s202, M.r14, M.s204, M.r15, M.s205, M.r20, M.s210, M.r21, M.s211, M.r22, M.s212, M.r17, M.s207, M.r18, M.s208, M.r24, M.s213, M.r19, M.s209, true_and, ai, forall_eq]
  rw [iv_clamp (by omega)]
  refine ⟨by decide, by decide, by decide, by decide, by decide, by decide, by decide, by decide, ?_⟩
  show (if 0 < hI (nw9 g S.1 c) 197 28 then _ else _)
  have t28 : hI (nw9 g S.1 c) 197 28 = iv st.length := by rw [nw9_o (by omega) (by omega)]; exact h28
  obtain ⟨u1, u2, u3, u4, u5, u6, u7, u8, u9⟩ := nw9_u (g := g) (u := S.1) (c := c)
  have M9 : ShM (nw9 g S.1 c) := M
  match st, St, h28, h5, hn, R, B, k1, t28 with
  | [], St, h28, h5, hn, R, B, k1, t28 =>
    rw [t28, if_neg (by decide)]
    refine ⟨by decide, ?_⟩
    show (if 0 < hI (sI (nw9 g S.1 c) 209 S.1 (-1)) 197 28 then _ else _)
    rw [hI_o (by omega), t28, if_neg (by decide)]
    show Wp (d + 1) m_Mo_beginType 227 _ _ (sI (nw9 g S.1 c) 209 S.1 (-1)) _
    have T2 : TabM (sI (nw9 g S.1 c) 209 S.1 (-1)) (bg (S, []) c) := by
      refine T.new W h90 (Nat.zero_le _) rfl rfl (by rw [hI_o (by omega)]; exact u1) (tab_nw9 h90 T (by rw [hI_o (by omega)]; exact u8) (by rw [hI_o (by omega)]; exact u9) fun a k h1 h2 h3 => hI_o (by omega)) hI_s (fun k hk => by rw [hI_o (by omega), nw9_o (by omega) (by omega)]) (by rw [hI_o (by omega)]; exact u5) (fun p hp q => by cases q) (fun p hp q => ⟨by rw [hI_o (by omega), nw9_o (by omega) (by omega)], fun k hk => ?_⟩)
      have := (kids_mem.mp hk).1
      exact ⟨by rw [hI_o (by omega), nw9_o (by omega) (by omega)], by rw [hI_o (by omega), nw9_o (by omega) (by omega)]⟩
    exact c_begin_227 (st := []) T2 trivial (fun f hf => nomatch hf) (by rw [hI_o (by omega)]; exact t28) h5 rfl (by unfold bg; rw [tG_tB]; simp) hx (nw9_fr.si (by decide)) k1
  | (n, s, dg, w) :: r, St, h28, h5, hn, R, B, k1, t28 =>
    have h5 : r.length + 1 < 5 := h5
    have nlt : n < S.1 := hn _ (List.mem_cons_self ..)
    have op : hI (nw9 g S.1 c) 213 r.length = iv n := by rw [nw9_o (by omega) (by omega)]; exact St.1.1
    have tp : hI (nw9 g S.1 c) 197 28 - 1 = iv r.length := by rw [t28, show ((n, s, dg, w) :: r).length = r.length + 1 from rfl, iv1, iv_sub (by omega), Nat.add_sub_cancel]
    have pos : (0 : Int32) < iv (r.length + 1) := (iv_lt (a := 0) (by omega) (by omega)).mpr (Nat.succ_pos _)
    have t28 : hI (nw9 g S.1 c) 197 28 = iv (r.length + 1) := t28
    rw [t28, if_pos pos]
    refine ⟨?_, by decide, ?_⟩
    · show ainr (hI (nw9 g S.1 c) 197 28 - 1) 8 = true
      rw [tp]; exact ainr_iv (by omega) (by omega)
    have h28b : hI (sI (nw9 g S.1 c) 209 S.1 (iv n)) 197 28 = iv (r.length + 1) := by rw [hI_o (by omega)]; exact t28
    show (if 0 < hI (sI (nw9 g S.1 c) 209 S.1 (hI (nw9 g S.1 c) 213 (hI (nw9 g S.1 c) 197 28 - 1).toNatClampNeg)) 197 28 then Ca d m_Mo_hang [.ref 197, .int (iv S.1), .int (hI (sI (nw9 g S.1 c) 209 S.1 (hI (nw9 g S.1 c) 213 (hI (nw9 g S.1 c) 197 28 - 1).toNatClampNeg)) 209 S.1)] (sI (nw9 g S.1 c) 209 S.1 (hI (nw9 g S.1 c) 213 (hI (nw9 g S.1 c) 197 28 - 1).toNatClampNeg)) _ else _)
    rw [tp, iv_clamp (by omega), op, h28b, if_pos pos, hI_s]
    have oo : ∀ a k, ¬ (a = 209 ∧ k = S.1) → hI (sI (nw9 g S.1 c) 209 S.1 (iv n)) a k = hI (nw9 g S.1 c) a k := fun a k q => hI_o q
    have kd : hI (sI (nw9 g S.1 c) 209 S.1 (iv n)) 202 n = tG S n 0 := by rw [oo _ _ (by omega), nw9_o (by omega) (by omega)]; exact T.kd (by omega)
    obtain ⟨tc, tl⟩ := T.2.2.2.2.2 n nlt
    have hw : tG S n 0 = 123 ∨ tG S n 0 = 63 → hI (sI (nw9 g S.1 c) 209 S.1 (iv n)) 216 r.length = w := by
      intro q
      rw [oo _ _ (by omega), nw9_o (by omega) (by omega)]
      refine St.1.2.2.2.2.1 ?_
      rcases R with ⟨e, _⟩ | ⟨_, n', s', dg', w', r', e, _, hs⟩
      · cases e
      · simp only [List.cons.injEq, Prod.mk.injEq] at e
        obtain ⟨⟨rfl, rfl, rfl, rfl⟩, rfl⟩ := e
        unfold waOn
        rcases hs with ⟨hk, rfl⟩ | ⟨hk, rfl⟩ | ⟨hk, rfl⟩
        · rw [hk]; rfl
        · rw [hk]; rfl
        · exfalso; rcases hk with hk | hk <;> rw [hk] at q <;> revert q <;> decide
    have lt : ∀ x, x ∈ kids S n → x < S.1 := fun x hx => (kids_mem.mp hx).1
    refine c_hang (t := r.length) (kd := tG S n 0) (w := w) (ks := kids S n) (g := sI (nw9 g S.1 c) 209 S.1 (iv n)) M h90 nlt kd h28b (by omega) hw ?_ ?_ (kids_sorted S n) lt (by rw [oo _ _ (by omega)]; exact u6) (by rw [oo _ _ (by omega)]; exact u7) (by rw [oo _ _ (by omega)]; exact u8) (by rw [oo _ _ (by omega)]; exact u9) fun g2 F2 a1 a2 a3 a4 a5 => ?_
    · rw [oo _ _ (by omega), nw9_o (by omega) (by omega)]; exact tc
    · refine tl.mono fun k hk => ?_
      have := lt k hk
      exact ⟨by rw [oo _ _ (by omega), nw9_o (by omega) (by omega)], by rw [oo _ _ (by omega), nw9_o (by omega) (by omega)]⟩
    · have F : MFr g g2 := (nw9_fr.si (by decide)).trans F2
      have eO : cxO S ((n, s, dg, w) :: r) = if tG S n 0 = 123 then w else -1 := rfl
      have eC : cxC S ((n, s, dg, w) :: r) = if tG S n 0 = 63 then w else -1 := rfl
      have sub : ∀ k, k ∈ kids S n → k < S.1 := lt
      have gg : ∀ a k, ¬ (a = 209 ∧ k = S.1) → ¬ (a = 207 ∧ k = S.1) → ¬ (a = 208 ∧ k = S.1) → ¬ (a = 210 ∧ k = n) → ¬ (a = 211 ∧ k ∈ kids S n) → ¬ (a = 212 ∧ k = S.1) → hI g2 a k = hI (nw9 g S.1 c) a k := fun a k q0 q1 q2 q3 q4 q5 => by rw [a5 a k q1 q2 q3 q4 q5]; exact oo a k q0
      have T2 : TabM g2 (bg (S, (n, s, dg, w) :: r) c) := by
        refine T.new W h90 (show n + 1 ≤ S.1 from nlt) F.1.2.1 F.1.2.2.2.1 (by rw [gg _ _ (by omega) (by omega) (by omega) (by omega) (by omega) (by omega)]; exact u1) (tab_nw9 h90 T (by rw [eO]; exact a1) (by rw [eC]; exact a2) fun a k h1 h2 h3 => gg a k (by omega) (by omega) (by omega) (by omega) (by omega) (by omega)) ?_ (fun k hk => ?_) ?_ (fun p hp q => ?_) (fun p hp q => ?_)
        · rw [a5 _ _ (by omega) (by omega) (by omega) (by omega) (by omega), hI_s]; rfl
        · rw [gg _ _ (by omega) (by omega) (by omega) (by omega) (by omega) (by omega), nw9_o (by omega) (by omega)]
        · rw [gg _ _ (by omega) (by omega) (by omega) (by omega) (by omega) (by omega)]; exact u5
        · have : p = n := by have : n + 1 = p + 1 := q; omega
          subst this
          exact ⟨a3, a4⟩
        · have pn : ¬ p = n := fun e => q (by rw [e]; rfl)
          refine ⟨by rw [gg _ _ (by omega) (by omega) (by omega) (by omega) (by omega) (by omega), nw9_o (by omega) (by omega)], fun k hk => ?_⟩
          obtain ⟨k1, k2⟩ := kids_mem.mp hk
          have nk : ¬ k ∈ kids S n := fun e => by have := (kids_mem.mp e).2; omega
          exact ⟨by rw [gg _ _ (by omega) (by omega) (by omega) (by omega) (fun e => nk e.2) (by omega), nw9_o (by omega) (by omega)], by rw [gg _ _ (by omega) (by omega) (by omega) (by omega) (by omega) (by omega), nw9_o (by omega) (by omega)]⟩
      have BB : Bel (bg (S, (n, s, dg, w) :: r) c) ((n, s, dg, w) :: r) := B.kp Kep.tB
      refine c_begin_227 T2 ?_ BB ?_ h5 rfl (by unfold bg; rw [tG_tB]; simp) hx F k1
      · refine St.mono (fun f hf a h1 h2 => ?_) fun f hf => (Kep.tB.2.2 f.1 (hn f hf)).2 0 (Or.inl rfl)
        rw [gg _ _ (by omega) (by omega) (by omega) (by omega) (by omega) (by omega), nw9_o (by omega) (by omega)]
      · rw [gg _ _ (by omega) (by omega) (by omega) (by omega) (by omega) (by omega)]; exact t28
end BEG
