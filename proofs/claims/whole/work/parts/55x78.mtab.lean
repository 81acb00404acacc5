/-! the Model's arrays hold a table and a stack -/
/-- 0: none, k + 1: node k -/
def lkI : Nat → Int32 | 0 => -1 | k + 1 => iv k
def hdI : List Nat → Int32 | [] => -1 | k :: _ => iv k
def kids (S : Tb) (p : Nat) : List Nat := (List.range S.1).filter fun k => decide (S.2.2 k = p + 1)
/-- the row of a node's parts -/
def LkM (g : Hp) : Int32 → List Nat → Prop
  | _, [] => True
  | b, k :: r => hI g 212 k = b ∧ hI g 211 k = hdI r ∧ LkM g (iv k) r
def TabM (g : Hp) (S : Tb) : Prop := ShM g ∧ hI g 197 23 = iv S.1 ∧ S.1 ≤ 90 ∧ (∀ j, j < 7 → ∀ k, k < 90 → hI g (202 + j) k = tG S k j) ∧ (∀ k, k < S.1 → hI g 209 k = lkI (S.2.2 k)) ∧ (∀ p, p < S.1 → hI g 210 p = hdI (kids S p) ∧ LkM g (-1) (kids S p))
def dgOn (k : Int32) (s : Nat) : Bool := decide (s = 3) && (sz k || decide (k = 63))
def waOn (k : Int32) (s : Nat) : Bool := (decide (k = 123) && decide (s = 1 ∨ s = 2)) || (decide (k = 63) && decide (s = 3 ∨ s = 4))
def FrM (g : Hp) (k : Int32) (f n s dg : Nat) (w : Int32) : Prop := hI g 213 f = iv n ∧ hI g 214 f = iv s ∧ (dgOn k s = true → hI g 215 f = iv dg) ∧ (s = 2 → sz k = true → dg = 0 ∧ hI g 215 f = 0) ∧ (waOn k s = true → hI g 216 f = w) ∧ s ≤ 5 ∧ dg ≤ 3
def StkM (g : Hp) (S : Tb) : List Fm → Prop
  | [] => True
  | (n, s, dg, w) :: r => FrM g (tG S n 0) r.length n s dg w ∧ StkM g S r
def CfM (g : Hp) (X : Cf) : Prop := TabM g X.1 ∧ StkM g X.1 X.2 ∧ hI g 197 28 = iv X.2.length ∧ X.2.length ≤ 5 ∧ (∀ f, f ∈ X.2 → f.1 < X.1.1)
/-- what the scan leaves alone -/
def MFr (g g' : Hp) : Prop := (hL g' = hL g ∧ hR g' = hR g ∧ hD g' = hD g ∧ hS g' = hS g ∧ hN g' = hN g ∧ hU g' = hU g) ∧ (∀ a, ¬ a = 197 → ¬ (202 ≤ a ∧ a ≤ 216) → hI g' a = hI g a) ∧ (∀ j, ¬ j = 23 → ¬ j = 28 → hI g' 197 j = hI g 197 j)
theorem MFr.refl (g : Hp) : MFr g g := ⟨⟨rfl, rfl, rfl, rfl, rfl, rfl⟩, fun _ _ _ => rfl, fun _ _ _ => rfl⟩
theorem MFr.trans {g g' g'' : Hp} (a : MFr g g') (b : MFr g' g'') : MFr g g'' := by
  obtain ⟨⟨a1, a2, a3, a4, a5, a6⟩, a7, a8⟩ := a
  obtain ⟨⟨b1, b2, b3, b4, b5, b6⟩, b7, b8⟩ := b
  exact ⟨⟨b1.trans a1, b2.trans a2, b3.trans a3, b4.trans a4, b5.trans a5, b6.trans a6⟩, fun x h1 h2 => (b7 x h1 h2).trans (a7 x h1 h2), fun x h1 h2 => (b8 x h1 h2).trans (a8 x h1 h2)⟩
theorem MFr.si {g g' : Hp} (a : MFr g g') {x j : Nat} {v : Int32} (h : 202 ≤ x ∧ x ≤ 216) : MFr g (sI g' x j v) := by
  refine a.trans ⟨⟨rfl, rfl, rfl, rfl, rfl, rfl⟩, fun y h1 h2 => hI_ne (by omega), fun y _ _ => hI_o (by omega)⟩
theorem MFr.s7 {g g' : Hp} (a : MFr g g') {j : Nat} {v : Int32} (h : j = 23 ∨ j = 28) : MFr g (sI g' 197 j v) := by
  refine a.trans ⟨⟨rfl, rfl, rfl, rfl, rfl, rfl⟩, fun y h1 h2 => hI_ne (by omega), fun y _ _ => hI_o (by omega)⟩
theorem LkM.mono {g g' : Hp} : ∀ {b : Int32} {ks : List Nat}, LkM g b ks → (∀ k, k ∈ ks → hI g' 211 k = hI g 211 k ∧ hI g' 212 k = hI g 212 k) → LkM g' b ks
  | _, [], _, _ => trivial
  | b, k :: r, L, h => ⟨by rw [(h k (List.mem_cons_self ..)).2]; exact L.1, by rw [(h k (List.mem_cons_self ..)).1]; exact L.2.1, LkM.mono L.2.2 fun x hx => h x (List.mem_cons_of_mem _ hx)⟩
theorem TabM.mono {g g' : Hp} {S : Tb} (T : TabM g S) (hr : hR g' = hR g) (hs : hS g' = hS g) (h23 : hI g' 197 23 = hI g 197 23) (ha : ∀ a, 202 ≤ a → a ≤ 212 → hI g' a = hI g a) : TabM g' S := by
  obtain ⟨t1, t2, t3, t4, t5, t6⟩ := T
  refine ⟨t1.same hr hs, by rw [h23]; exact t2, t3, fun j hj k hk => by rw [ha _ (by omega) (by omega)]; exact t4 j hj k hk, fun k hk => by rw [ha 209 (by decide) (by decide)]; exact t5 k hk, fun p hp => ⟨by rw [ha 210 (by decide) (by decide)]; exact (t6 p hp).1, (t6 p hp).2.mono fun k _ => by rw [ha 211 (by decide) (by decide), ha 212 (by decide) (by decide)]; exact ⟨rfl, rfl⟩⟩⟩
theorem kids_tF {S : Tb} {n j p : Nat} {v : Int32} : kids (tF S n j v) p = kids S p := rfl
theorem TabM.tF {g : Hp} {S : Tb} (T : TabM g S) {n j : Nat} {v : Int32} (hj : j < 7) : TabM (sI g (202 + j) n v) (tF S n j v) := by
  obtain ⟨t1, t2, t3, t4, t5, t6⟩ := T
  refine ⟨t1, by rw [hI_o (by omega)]; exact t2, t3, fun i hi k hk => ?_, fun k hk => by rw [hI_o (by omega)]; exact t5 k hk, fun p hp => ⟨by rw [hI_o (by omega)]; exact (t6 p hp).1, (t6 p hp).2.mono fun k _ => ⟨hI_o (by omega), hI_o (by omega)⟩⟩⟩
  rw [hI_sI, tG_tF]
  by_cases c : k = n ∧ i = j
  · rw [if_pos ⟨by omega, c.1⟩, if_pos c]
  · rw [if_neg (by omega), if_neg c]; exact t4 i hi k hk
theorem FrM.mono {g g' : Hp} {k : Int32} {f n s dg : Nat} {w : Int32} (F : FrM g k f n s dg w) (h : ∀ a, 213 ≤ a → a ≤ 216 → hI g' a f = hI g a f) : FrM g' k f n s dg w := by
  unfold FrM
  rw [h 213 (by decide) (by decide), h 214 (by decide) (by decide), h 215 (by decide) (by decide), h 216 (by decide) (by decide)]
  exact F
theorem StkM.mono {g g' : Hp} {S S' : Tb} : ∀ {st : List Fm}, StkM g S st → (∀ f, f < st.length → ∀ a, 213 ≤ a → a ≤ 216 → hI g' a f = hI g a f) → (∀ f, f ∈ st → tG S' f.1 0 = tG S f.1 0) → StkM g' S' st
  | [], _, _, _ => trivial
  | (n, s, dg, w) :: r, T, h, e => by
    refine ⟨?_, StkM.mono T.2 (fun f hf => h f (Nat.lt_succ_of_lt hf)) fun f hf => e f (List.mem_cons_of_mem _ hf)⟩
    rw [e (n, s, dg, w) (List.mem_cons_self ..)]
    exact T.1.mono (h r.length (Nat.lt_succ_self _))
theorem TabM.kd {g : Hp} {S : Tb} {n : Nat} (T : TabM g S) (h : n < 90) : hI g 202 n = tG S n 0 := T.2.2.2.1 0 (by decide) n h
section FIN
variable {d : Nat} {K : Hp → Prop} {S : Tb}
theorem c_finish_72 {g : Hp} {st : List Fm} (C : CfM g (S, st)) (hk : ∀ n s dg w r, st = (n, s, dg, w) :: r → ¬ (tG S n 0 = 42 ∨ tG S n 0 = 47) ∧ sz (tG S n 0) = false) (k : ∀ g', CfM g' (S, fin S st) → MFr g g' → K g') : Wp d m_Mo_finish 72 [some (.ref 197)] [] g (QV K) := by
  obtain ⟨T, St, h28, h5, hn⟩ := C
  dsimp only at T St h28 h5 hn
  have M := T.1
  refine w_Mo_finish_72 ?_
  simp only [hR_sI, hS_sI, M.o, M.r24, M.s213, M.r12, M.s202, M.r25, M.s214, h28, true_and]
  match st, St, h28, h5, hn, hk, k with
  | [], St, h28, h5, hn, hk, k =>
    rw [if_neg (by decide)]
    exact k g ⟨T, trivial, h28, h5, hn⟩ (MFr.refl g)
  | (n, s, dg, w) :: r, St, h28, h5, hn, hk, k =>
    obtain ⟨q1, q2⟩ := hk n s dg w r rfl
    have h5 : r.length + 1 ≤ 5 := h5
    have nlt : n < S.1 := hn _ (List.mem_cons_self ..)
    have n90 : n < 90 := by have := T.2.2.1; omega
    rw [show ((n, s, dg, w) :: r).length = r.length + 1 from rfl, iv0, if_pos ((iv_lt (by omega) (by omega)).mpr (Nat.succ_pos _)), iv1, iv_sub (by omega), Nat.add_sub_cancel, iv_clamp (by omega), St.1.1, iv_clamp (by omega), T.kd n90]
    refine ⟨ainr_iv (by omega) (by omega), ainr_iv (by omega) n90, ?_⟩
    have e : fin S ((n, s, dg, w) :: r) = (n, if tG S n 0 = 123 then 3 else 5, dg, w) :: r := by
      unfold fin; rw [if_neg q1]
    have go : ∀ v s', v = iv s' → s' = (if tG S n 0 = 123 then 3 else 5) → ainr (iv r.length) 8 = true ∧ ∀ h18 : Hp, h18 = sI g 214 r.length v → K h18 := by
      rintro _ s' rfl e'
      refine ⟨ainr_iv (by omega) (by omega), ?_⟩
      rintro _ rfl
      refine k _ ?_ ((MFr.refl g).si (by decide))
      rw [e]
      refine ⟨T.mono rfl rfl (hI_o (by omega)) (fun a h1 h2 => hI_ne (by omega)), ⟨?_, St.2.mono (fun f hf a h1 h2 => hI_o (by omega)) fun _ _ => rfl⟩, by rw [hI_o (by omega)]; exact h28, h5, fun f hf => ?_⟩
      · show FrM _ (tG S n 0) r.length n _ dg w
        have o : ∀ a, ¬ a = 214 → hI (sI g 214 r.length (iv s')) a r.length = hI g a r.length := fun a ha => hI_o (by omega)
        unfold FrM
        rw [o 213 (by decide), o 215 (by decide), o 216 (by decide), hI_s, e']
        refine ⟨St.1.1, rfl, fun q => ?_, fun _ q => ?_, fun q => ?_, ?_, St.1.2.2.2.2.2.2⟩
        · unfold dgOn at q
          rw [q2] at q
          by_cases c : tG S n 0 = 123
          · rw [c] at q; simp at q
          · rw [if_neg c] at q; simp [c] at q
        · rw [q2] at q; cases q
        · unfold waOn at q
          by_cases c : tG S n 0 = 123
          · rw [c] at q; simp at q
          · rw [if_neg c] at q; simp at q
        · by_cases c : tG S n 0 = 123
          · rw [if_pos c]; omega
          · rw [if_neg c]; omega
      · rcases List.mem_cons.mp hf with rfl | hf
        · exact nlt
        · exact hn f (List.mem_cons_of_mem _ hf)
    by_cases c : tG S n 0 = 123
    · rw [if_pos c]
      refine ⟨by decide, ?_⟩
      exact go _ 3 rfl (by rw [if_pos c])
    · rw [if_neg c]
      refine ⟨by decide, ?_⟩
      exact go _ 5 rfl (by rw [if_neg c])
theorem c_finish_10 : ∀ (st : List Fm) (g : Hp), CfM g (S, st) → Bel S st → (∀ g', CfM g' (S, fin S st) → MFr g g' → K g') → Wp d m_Mo_finish 10 [some (.ref 197)] [] g (QV K)
  | [], g, C, B, k => by
    refine w_Mo_finish_10 ?_
    have M := C.1.1
    have h28 : hI g 197 28 = iv 0 := C.2.2.1
    simp only [hR_sI, hS_sI, M.o, M.r24, M.s213, M.r12, M.s202, M.r25, M.s214, h28, true_and]
    rw [if_neg (by decide)]
    exact c_finish_72 C (fun n s dg w r e => by cases e) k
  | (n, s, dg, w) :: r, g, C, B, k => by
    obtain ⟨T, St, h28, h5, hn⟩ := id C
    dsimp only at T St h28 h5 hn
    have M := T.1
    have h5 : r.length + 1 ≤ 5 := h5
    have nlt : n < S.1 := hn _ (List.mem_cons_self ..)
    have n90 : n < 90 := by have := T.2.2.1; omega
    refine w_Mo_finish_10 ?_
    simp only [hR_sI, hS_sI, M.o, M.r24, M.s213, M.r12, M.s202, M.r25, M.s214, h28, true_and]
    rw [show ((n, s, dg, w) :: r).length = r.length + 1 from rfl, iv0, if_pos ((iv_lt (by omega) (by omega)).mpr (Nat.succ_pos _)), iv1, iv_sub (by omega), Nat.add_sub_cancel, iv_clamp (by omega), St.1.1, iv_clamp (by omega), T.kd n90]
    refine ⟨ainr_iv (by omega) (by omega), ainr_iv (by omega) n90, ?_⟩
    have go : (tG S n 0 = 42 ∨ tG S n 0 = 47) → ∀ h8 : Hp, h8 = sI g 197 28 (iv r.length) → Wp d m_Mo_finish 10 [some (.ref 197)] [] h8 (QV K) := by
      rintro c _ rfl
      have C' : CfM (sI g 197 28 (iv r.length)) (S, r) := ⟨T.mono rfl rfl (hI_o (by decide)) (fun a h1 h2 => hI_ne (by omega)), St.2.mono (fun f hf a h1 h2 => hI_o (by omega)) fun _ _ => rfl, hI_s, by show r.length ≤ 5; omega, fun f hf => hn f (List.mem_cons_of_mem _ hf)⟩
      refine c_finish_10 r _ C' (fun f hf => B f (List.mem_cons_of_mem _ hf)) fun g' C'' F => k g' ?_ (((MFr.refl g).s7 (Or.inr rfl)).trans F)
      have : fin S ((n, s, dg, w) :: r) = fin S r := by show (if tG S n 0 = 42 ∨ tG S n 0 = 47 then _ else _) = _; rw [if_pos c]
      rw [this]; exact C''
    by_cases c1 : tG S n 0 = 42
    · rw [if_pos c1]; exact go (Or.inl c1)
    · rw [if_neg c1]
      by_cases c2 : tG S n 0 = 47
      · rw [if_pos c2]; exact go (Or.inr c2)
      · rw [if_neg c2]
        refine c_finish_72 C (fun n' s' dg' w' r' e => ?_) k
        simp only [List.cons.injEq, Prod.mk.injEq] at e
        obtain ⟨⟨rfl, -⟩, -⟩ := e
        exact ⟨fun q => by rcases q with q | q; exact c1 q; exact c2 q, (B _ (List.mem_cons_self ..)).2⟩
/-- a type is done -/
theorem c_finish {g : Hp} {st : List Fm} {f : Fm} (C : CfM g (S, f :: st)) (B : Bel S st) (k : ∀ g', CfM g' (S, fin S st) → MFr g g' → K g') : Ca d m_Mo_finish [.ref 197] g (QV K) := by
  obtain ⟨T, St, h28, h5, hn⟩ := C
  dsimp only at T St h28 h5 hn
  have h5 : st.length + 1 ≤ 5 := h5
  obtain ⟨n, s, dg, w⟩ := f
  refine w_Mo_finish ⟨T.1.o, ?_⟩
  rintro _ rfl
  rw [h28, show ((n, s, dg, w) :: st).length = st.length + 1 from rfl, iv1, iv_sub (by omega), Nat.add_sub_cancel]
  have C' : CfM (sI g 197 28 (iv st.length)) (S, st) := ⟨T.mono rfl rfl (hI_o (by decide)) (fun a h1 h2 => hI_ne (by omega)), St.2.mono (fun f hf a h1 h2 => hI_o (by omega)) fun _ _ => rfl, hI_s, by show st.length ≤ 5; omega, fun f hf => hn f (List.mem_cons_of_mem _ hf)⟩
  exact c_finish_10 st _ C' B fun g' C'' F => k g' C'' (((MFr.refl g).s7 (Or.inr rfl)).trans F)
end FIN
