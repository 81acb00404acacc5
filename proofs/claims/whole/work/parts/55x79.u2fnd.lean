def BkM (h : Hp) : Nat → List Nat → Prop
  | x, [] => hI h 212 x = -1
  | x, k :: r => hI h 212 x = iv k ∧ BkM h k r
theorem bkM_of {h : Hp} : ∀ {pre acc : List Nat} {pr : Int32} {x : Nat} {suf : List Nat}, LkM h pr (pre ++ x :: suf) → (pr = hdI acc ∧ ∀ k r, acc = k :: r → BkM h k r) → BkM h x (pre.reverse ++ acc)
  | [], [], pr, x, suf, L, A => by show hI h 212 x = -1; rw [L.1, A.1]; rfl
  | [], k :: r, pr, x, suf, L, A => ⟨by rw [L.1, A.1]; rfl, A.2 k r rfl⟩
  | y :: pre, acc, pr, x, suf, L, A => by
    rw [List.reverse_cons, List.append_assoc]
    refine bkM_of (pre := pre) (acc := y :: acc) (pr := iv y) L.2.2 ⟨rfl, fun k r e => ?_⟩
    simp only [List.cons.injEq] at e
    obtain ⟨rfl, rfl⟩ := e
    cases acc with
    | nil => show hI h 212 y = -1; rw [L.1, A.1]; rfl
    | cons z zs => exact ⟨by rw [L.1, A.1]; rfl, A.2 z zs rfl⟩
theorem befs_bkM {h : Hp} {p x : Nat} {S : Tb} (R : LkM h (-1) (kids S p)) (hx : x ∈ kids S p) : BkM h x (befs S p x) := by
  obtain ⟨pre, suf, e⟩ := mem_split hx
  have srt := kids_sorted S p
  unfold befs
  rw [e] at srt ⊢
  rw [split_lt srt]
  rw [e] at R
  have q := bkM_of (acc := []) R ⟨rfl, fun k r e => (by cases e)⟩
  rw [List.append_nil] at q
  exact q
theorem LkM.at {h : Hp} : ∀ {pre : List Nat} {pr : Int32} {x : Nat} {suf : List Nat}, LkM h pr (pre ++ x :: suf) → ∃ pr', LkM h pr' (x :: suf)
  | [], pr, x, suf, L => ⟨pr, L⟩
  | y :: pre, pr, x, suf, L => LkM.at L.2.2
section FND
variable {d n : Nat} {h : Hp} {S : Tb}
theorem TabM.pr {x : Nat} (T : TabM h S) (hx : x < S.1) : hI h 209 x = lkI (S.2.2 x) := T.2.2.2.2.1 x hx
theorem find_36 {K : Int32 → Hp → Prop} {p x : Nat} (T : TabM h S) (W : TW S) (hn : n < S.1) (y2 : Option Value) (hp : p < S.1) (k0 : lkB S (tG S n 4) (befs S p x) = 0 → ∀ y4, Wp (d + 1) m_Mo_find 2 [some (.ref 197), some (.int (iv n)), some (.int (iv p)), some (.int (iv p)), y4] [] h (QI K))
    (k1 : ∀ k, lkB S (tG S n 4) (befs S p x) = k + 1 → K (iv k) h) : ∀ (l : List Nat) (z : Nat), BkM h z l → (∀ k, k ∈ l → k < S.1 ∧ tG S k 5 = tG S k 7) → lkB S (tG S n 4) l = lkB S (tG S n 4) (befs S p x) →
    Wp (d + 1) m_Mo_find 36 [some (.ref 197), some (.int (iv n)), y2, some (.int (iv p)), some (.int (hI h 212 z))] [] h (QI K)
  | [], z, B, hl, e => by
    refine w_Mo_find_36 ?_
    rw [show hI h 212 z = -1 from B, if_pos (by decide)]
    exact k0 e.symm _
  | y :: l, z, B, hl, e => by
    have M := T.1
    have u90 := T.2.2.1
    obtain ⟨y1, y2'⟩ := hl y (List.mem_cons_self ..)
    have an : ainr (iv n) 90 = true := ainr_iv (by omega) (by omega)
    have cn : (iv n).toNatClampNeg = n := iv_clamp (by omega)
    have ay : ainr (iv y) 90 = true := ainr_iv (by omega) (by omega)
    have cy : (iv y).toNatClampNeg = y := iv_clamp (by omega)
    have f5 : hI h 207 y = tG S y 5 := T.f (j := 5) (by decide) y1
    have f4 : hI h 206 n = tG S n 4 := T.f (j := 4) (by decide) hn
    have f0 : hI h 202 y = tG S y 0 := T.f (j := 0) (by decide) y1
    refine w_Mo_find_36 ?_
    rw [B.1, if_neg (iv_neg (by omega))]
    simp only [hR_sI, hS_sI, M.o, M.r17, M.s207, M.r16, M.s206, M.r12, M.s202, M.r22, M.s212, true_and, an, cn, ay, cy, f5, f4, f0]
    have eu : lkB S (tG S n 4) (y :: l) = if tG S y 7 = tG S n 4 ∧ sz (tG S y 0) = true then y + 1 else lkB S (tG S n 4) l := rfl
    rw [eu] at e
    have next : ¬ (tG S y 7 = tG S n 4 ∧ sz (tG S y 0) = true) → Wp (d + 1) m_Mo_find 36 [some (.ref 197), some (.int (iv n)), y2, some (.int (iv p)), some (.int (hI h 212 y))] [] h (QI K) := by
      intro q
      rw [if_neg q] at e
      exact find_36 T W hn y2 hp k0 k1 l y B.2 (fun k hk => hl k (List.mem_cons_of_mem _ hk)) e
    rw [y2']
    by_cases c : tG S y 7 = tG S n 4
    · rw [if_pos c]
      refine c_sized ?_
      by_cases g : sz (tG S y 0) = true
      · rw [if_pos g, if_neg (by decide)]
        rw [if_pos ⟨c, g⟩] at e
        exact k1 y e.symm
      · rw [if_neg g, if_pos rfl]
        simp only [hR_sI, hS_sI, M.o, M.r22, M.s212, true_and, ay]
        rintro _ rfl
        exact next fun q => g q.2
    · rw [if_neg c]
      rintro _ rfl
      exact next fun q => c q.1
theorem find_2 {K : Int32 → Hp → Prop} (T : TabM h S) (W : TW S) (hn : n < S.1) : ∀ (f x : Nat) (y3 y4 : Option Value), x < S.1 → x < f → K (lkI (mntF S (tG S n 4) f x)) h → Wp (d + 1) m_Mo_find 2 [some (.ref 197), some (.int (iv n)), some (.int (iv x)), y3, y4] [] h (QI K)
  | 0, x, y3, y4, hx, hf, k => absurd hf (Nat.not_lt_zero _)
  | f + 1, x, y3, y4, hx, hf, k => by
    have M := T.1
    have u90 := T.2.2.1
    have ax : ainr (iv x) 90 = true := ainr_iv (by omega) (by omega)
    have cx : (iv x).toNatClampNeg = x := iv_clamp (by omega)
    refine w_Mo_find_2 ?_
    rw [if_neg (iv_neg (by omega))]
    simp only [hR_sI, hS_sI, M.o, M.r19, M.s209, M.r12, M.s202, M.r22, M.s212, true_and, ax, cx, T.pr hx]
    rintro _ rfl
    unfold mntF at k
    cases e : S.2.2 x with
    | zero =>
      rw [e] at k
      show (if (-1 : Int32) < 0 then Wp (d + 1) m_Mo_find 2 [some (.ref 197), some (.int (iv n)), some (.int (-1)), some (.int (-1)), y4] [] h (QI K) else _)
      rw [if_pos (by decide)]
      refine w_Mo_find_2 ?_
      rw [if_pos (by decide)]
      exact k
    | succ p =>
      rw [e] at k
      dsimp only at k
      have px : p < x := by have := W.1 x hx; omega
      have ap : ainr (iv p) 90 = true := ainr_iv (by omega) (by omega)
      have cp : (iv p).toNatClampNeg = p := iv_clamp (by omega)
      have f0 : hI h 202 p = tG S p 0 := T.f (j := 0) (by decide) (by omega)
      show (if iv p < 0 then Wp (d + 1) m_Mo_find 2 [some (.ref 197), some (.int (iv n)), some (.int (iv p)), some (.int (iv p)), y4] [] h (QI K) else (ainr (iv p) 90 = true ∧ if hI h 202 (iv p).toNatClampNeg = 123 then _ else Wp (d + 1) m_Mo_find 2 [some (.ref 197), some (.int (iv n)), some (.int (iv p)), some (.int (iv p)), y4] [] h (QI K)))
      rw [if_neg (iv_neg (by omega)), cp, f0]
      refine ⟨ap, ?_⟩
      have xk : x ∈ kids S p := kids_mem.mpr ⟨hx, e⟩
      by_cases c : tG S p 0 = 123
      · rw [if_pos c]
        rintro _ rfl
        refine find_36 (x := x) T W hn _ (show p < S.1 by omega) (fun z y4 => ?_) (fun w z => ?_) (befs S p x) x (befs_bkM (T.2.2.2.2.2 p (by omega)).2 xk) (fun w hw => ?_) rfl
        · rw [if_neg (fun q => q.2 z)] at k
          exact find_2 T W hn f p _ _ (by omega) (by omega) k
        · rw [if_pos ⟨c, by rw [z]; exact Nat.succ_ne_zero w⟩, z] at k
          exact k
        · obtain ⟨w1, w2⟩ := befs_lt hw
          have wk : w ∈ kids S p := by
            unfold befs at hw
            rw [List.mem_reverse, List.mem_filter] at hw; exact hw.1
          exact ⟨w1, (((W.2.2.1 w w1).2.2 p (kids_mem.mp wk).2).2.2.1 c).1⟩
      · rw [if_neg c]
        rw [if_neg (fun q => c q.1)] at k
        exact find_2 T W hn f p _ _ (by omega) (by omega) k
theorem c_find {K : Int32 → Hp → Prop} (T : TabM h S) (W : TW S) (hn : n < S.1) (k : K (lkI (mnt S n)) h) : Ca (d + 1) m_Mo_find [.ref 197, .int (iv n)] h (QI K) :=
  w_Mo_find (find_2 T W hn (n + 1) n _ _ hn (Nat.lt_succ_self _) k)
/-- what a node's name means, or nothing -/
def fld (S : Tb) (n : Nat) : Nat := if dp (tG S n 0) = true then mnt S n else 0
/-- intervals and meanings up to i -/
def Sa (h : Hp) (S : Tb) (i : Nat) : Prop := (∀ k, k < i → sz (tG S k 0) = true → hL h 217 k = loT S k ∧ hL h 218 k = hiT S k) ∧ (∀ k, k < i → hI h 221 k = lkI (fld S k))
theorem c_sa_2 {K : Int32 → Hp → Prop} {h0 : Hp} (W : TW S) (k : ∀ h', TabM h' S → MSf h0 h' → Sa h' S S.1 → ∀ y, Wp (d + 2) m_Mo_soundAll 92 [some (.ref 197), some (.int (iv S.1 - 1)), y] [] h' (QI K)) : ∀ (m i : Nat) (h : Hp) (y : Option Value), i + m = S.1 → TabM h S → MSf h0 h → Sa h S i → Wp (d + 2) m_Mo_soundAll 2 [some (.ref 197), some (.int (iv i)), y] [] h (QI K)
  | 0, i, h, y, hm, T, f, A => by
    have u90 := T.2.2.1
    refine w_Mo_soundAll_2 ⟨T.1.o, ?_⟩
    rw [T.2.1, if_neg (fun q => by have := (iv_lt (by omega) (by omega)).mp q; omega)]
    rintro _ rfl
    have : i = S.1 := by omega
    rw [this] at A
    exact k h T f A y
  | m + 1, i, h, y, hm, T, f, A => by
    have u90 := T.2.2.1
    have M := T.1
    have hil : i < S.1 := by omega
    have ai : ainr (iv i) 90 = true := ainr_iv (by omega) (by omega)
    have ci : (iv i).toNatClampNeg = i := iv_clamp (by omega)
    refine w_Mo_soundAll_2 ⟨M.o, ?_⟩
    rw [T.2.1, if_pos ((iv_lt (by omega) (by omega)).mpr hil)]
    simp only [hR_sI, hS_sI, M.o, M.r33, M.s221, M.r12, M.s202, true_and, ai, ci, forall_eq]
    refine ⟨by decide, ?_⟩
    have f1 : MSf h0 (sI h 221 i (-1)) := f.trans MSf.si
    have T1 : TabM (sI h 221 i (-1)) S := T.ms MSf.si
    have A1 : Sa (sI h 221 i (-1)) S i := ⟨A.1, fun k hk => by rw [hI_o (by omega)]; exact A.2 k hk⟩
    have e1 : hI (sI h 221 i (-1)) 221 i = -1 := hI_s
    have f0 : hI (sI h 221 i (-1)) 202 i = tG S i 0 := T1.f (j := 0) (by decide) hil
    generalize sI h 221 i (-1) = h1 at f1 T1 A1 e1 f0 ⊢
    rw [f0]
    have G := (W.2.2.1 i hil).1
    -- the name's meaning
    have w35 : ∀ h2, TabM h2 S → MSf h0 h2 → Sa h2 S i → (sz (tG S i 0) = true → hL h2 217 i = loT S i ∧ hL h2 218 i = hiT S i) → hI h2 221 i = -1 → Wp (d + 2) m_Mo_soundAll 35 [some (.ref 197), some (.int (iv i)), y] [] h2 (QI K) := by
      intro h2 T2 f2 A2 s2 e2
      have M2 := T2.1
      have g0 : hI h2 202 i = tG S i 0 := T2.f (j := 0) (by decide) hil
      have w68 : dp (tG S i 0) = true → Wp (d + 2) m_Mo_soundAll 68 [some (.ref 197), some (.int (iv i)), y] [] h2 (QI K) := by
        intro hd
        refine w_Mo_soundAll_68 ⟨M2.o, c_find T2 W hil ?_⟩
        simp only [hR_sI, hS_sI, M2.o, M2.r33, M2.s221, true_and, ai, ci, forall_eq]
        refine ⟨by decide, ?_⟩
        rw [iv1, iv_add]
        refine c_sa_2 W k m (i + 1) _ y (by omega) (T2.ms MSf.si) (f2.trans MSf.si) ⟨fun k hk q => ?_, fun k hk => ?_⟩
        · by_cases z : k = i
          · rw [z]; rw [z] at q; exact s2 q
          · exact A2.1 k (by omega) q
        · by_cases z : k = i
          · rw [z, hI_s]; unfold fld; rw [if_pos hd]
          · rw [hI_o (by omega)]; exact A2.2 k (by omega)
      refine w_Mo_soundAll_35 ⟨M2.o, ?_⟩
      simp only [hR_sI, hS_sI, M2.o, M2.r12, M2.s202, true_and, ai, ci, g0]
      by_cases c1 : tG S i 0 = 42
      · rw [if_pos c1]; exact w68 (by rw [c1]; rfl)
      rw [if_neg c1]
      by_cases c2 : tG S i 0 = 47
      · rw [if_pos c2]; exact w68 (by rw [c2]; rfl)
      rw [if_neg c2]
      by_cases c3 : tG S i 0 = 63
      · rw [if_pos c3]; exact w68 (by rw [c3]; rfl)
      rw [if_neg c3]
      rintro _ rfl
      rw [iv1, iv_add]
      refine c_sa_2 W k m (i + 1) _ y (by omega) T2 f2 ⟨fun k hk q => ?_, fun k hk => ?_⟩
      · by_cases z : k = i
        · rw [z]; rw [z] at q; exact s2 q
        · exact A2.1 k (by omega) q
      · by_cases z : k = i
        · rw [z, e2]; unfold fld dp; rw [decide_eq_false c1, decide_eq_false c2, decide_eq_false c3]; rfl
        · exact A2.2 k (by omega)
    refine c_sized ?_
    by_cases hz : sz (tG S i 0) = true
    · rw [if_pos hz, if_neg (by decide)]
      refine ⟨T1.1.o, c_interval T1 hil G hz ?_⟩
      refine w35 _ ((T1.ms (MSf.sL (by decide))).ms (MSf.sL (by decide))) ((f1.trans (MSf.sL (by decide))).trans (MSf.sL (by decide))) ⟨fun k hk q => ?_, A1.2⟩ (fun _ => ⟨?_, hL_s⟩) e1
      · obtain ⟨a, b⟩ := A1.1 k hk q
        exact ⟨by rw [hL_o (by omega), hL_o (by omega)]; exact a, by rw [hL_o (by omega), hL_o (by omega)]; exact b⟩
      · rw [hL_o (by omega)]; exact hL_s
    · rw [if_neg hz, if_pos rfl]
      exact w35 h1 T1 f1 A1 (fun q => absurd q hz) e1
end FND
