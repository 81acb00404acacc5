/-! the Model's soundness -/
section MS5
variable {d n : Nat} {h : Hp} {S : Tb}
theorem c_good_14 {K : Int32 → Hp → Prop} {f : Nat} (W : TW S) (T : TabM h S) (A : Sa h S S.1) (hn : n < S.1) (hf : f < S.1) (hz : sz (tG S f 0) = true) (k1 : GoodC S n f → K 1 h) (k0 : ¬ GoodC S n f → K 0 h) (y1 : Option Value) : ∀ (suf pre : List Nat) (pr : Int32) (y4 : Option Value), kids S n = pre ++ suf → LkM h pr suf →
    (∀ x, x ∈ pre → (¬ (tG S x 6).toInt64 < loT S f ∧ ¬ hiT S f < (tG S x 6).toInt64) ∧ ∀ y, y ∈ suf → ¬ tG S x 6 = tG S y 6) → (pre.Pairwise fun x y => ¬ tG S x 6 = tG S y 6) → Wp d m_Mo_goodCases 14 [some (.ref 197), y1, some (.int (iv f)), some (.int (hdI suf)), y4] [] h (QI K)
  | [], pre, pr, y4, e, L, hin, hpw => by
    refine w_Mo_goodCases_14 ?_
    rw [if_pos (show hdI [] < 0 by decide)]
    rw [List.append_nil] at e
    exact k1 ⟨by rw [e]; exact fun x hx => (hin x hx).1, by rw [e]; exact hpw⟩
  | x :: suf, pre, pr, y4, e, L, hin, hpw => by
    have M := T.1
    have u90 := T.2.2.1
    have xk : x ∈ kids S n := by rw [e]; simp
    have xu := (kids_gt W.1 xk).2
    have ax : ainr (iv x) 90 = true := ainr_iv (by omega) (by omega)
    have cx : (iv x).toNatClampNeg = x := iv_clamp (by omega)
    have af : ainr (iv f) 90 = true := ainr_iv (by omega) (by omega)
    have cf : (iv f).toNatClampNeg = f := iv_clamp (by omega)
    have f6 : ∀ y, y < S.1 → hI h 208 y = tG S y 6 := fun y hy => T.f (j := 6) (by decide) hy
    obtain ⟨l1, l2⟩ := A.1 f hf hz
    have nx : hI h 211 x = hdI suf := L.2.1
    refine w_Mo_goodCases_14 ?_
    rw [show hdI (x :: suf) = iv x from rfl, if_neg (iv_neg (by omega))]
    simp only [hR_sI, hS_sI, M.o, M.r18, M.s208, M.r29, M.s217, M.r30, M.s218, M.r21, M.s211, true_and, ax, cx, af, cf, f6 x xu, l1, l2, nx]
    by_cases a1 : (tG S x 6).toInt64 < loT S f
    · rw [if_pos a1]; exact k0 fun G => (G.1 x xk).1 a1
    rw [if_neg a1]
    by_cases a2 : hiT S f < (tG S x 6).toInt64
    · rw [if_pos a2]; exact k0 fun G => (G.1 x xk).2 a2
    rw [if_neg a2]
    rintro _ rfl
    -- the later ones
    have inner : ∀ (s2 s1 : List Nat) (pr : Int32), suf = s1 ++ s2 → LkM h pr s2 → (∀ y, y ∈ s1 → ¬ tG S x 6 = tG S y 6) → Wp d m_Mo_goodCases 62 [some (.ref 197), y1, some (.int (iv f)), some (.int (iv x)), some (.int (hdI s2))] [] h (QI K) := by
      intro s2
      induction s2 with
      | nil =>
        intro s1 pr e2 L2 h2
        refine w_Mo_goodCases_62 ?_
        rw [if_pos (show hdI [] < 0 by decide)]
        simp only [hR_sI, hS_sI, M.o, M.r21, M.s211, true_and, ax, cx, nx]
        rintro _ rfl
        rw [List.append_nil] at e2
        refine c_good_14 W T A hn hf hz k1 k0 y1 suf (pre ++ [x]) (iv x) _ (by rw [e, List.append_assoc]; rfl) L.2.2 (fun z hz' => ?_) ?_
        · rcases List.mem_append.mp hz' with hz' | hz'
          · exact ⟨(hin z hz').1, fun y hy => (hin z hz').2 y (List.mem_cons_of_mem _ hy)⟩
          · rw [List.mem_singleton] at hz'
            rw [hz']
            exact ⟨⟨a1, a2⟩, fun y hy => h2 y (by rw [← e2]; exact hy)⟩
        · rw [List.pairwise_append]
          refine ⟨hpw, List.pairwise_singleton _ _, fun z hz' w hw => ?_⟩
          rw [List.mem_singleton] at hw
          rw [hw]; exact (hin z hz').2 x (List.mem_cons_self ..)
      | cons y s2 ih =>
        intro s1 pr e2 L2 h2
        have yk : y ∈ kids S n := by rw [e, e2]; simp
        have yu := (kids_gt W.1 yk).2
        have ay : ainr (iv y) 90 = true := ainr_iv (by omega) (by omega)
        have cy : (iv y).toNatClampNeg = y := iv_clamp (by omega)
        have nxy : hI h 211 y = hdI s2 := L2.2.1
        refine w_Mo_goodCases_62 ?_
        rw [show hdI (y :: s2) = iv y from rfl, if_neg (iv_neg (by omega))]
        simp only [hR_sI, hS_sI, M.o, M.r18, M.s208, M.r21, M.s211, true_and, ax, cx, ay, cy, f6 x xu, f6 y yu, nxy]
        by_cases c : tG S x 6 = tG S y 6
        · rw [if_pos c]
          refine k0 fun G => ?_
          have pw := G.2
          rw [e, List.pairwise_append] at pw
          have pw2 := (List.pairwise_cons.mp pw.2.1).1 y (by rw [e2]; simp)
          exact pw2 c
        · rw [if_neg c]
          rintro _ rfl
          refine ih (s1 ++ [y]) (iv y) (by rw [e2, List.append_assoc]; rfl) L2.2.2 fun z hz' => ?_
          rcases List.mem_append.mp hz' with hz' | hz'
          · exact h2 z hz'
          · rw [List.mem_singleton] at hz'; rw [hz']; exact c
    exact inner suf [] (iv x) rfl L.2.2 fun y hy => (nomatch hy)
/-- what the Model asks of a node -/
def SNo (S : Tb) (g : Nat → Int64 × Int64) (n : Nat) : Prop := ¬ 1000 < (g n).2 ∧ InPl S n ∧ (sz (tG S n 0) = true → ¬ hiT S n < loT S n) ∧ (dp (tG S n 0) = true → ¬ mnt S n = 0 ∧ (tG S n 0 = 63 → GoodC S n (mnt S n - 1)) ∧ (tG S n 0 = 42 → ∀ c r, kids S n = c :: r → 0 < (g c).2) ∧ (tG S n 0 = 47 → ∀ c r, kids S n = c :: r → 0 < (g c).1))
theorem nx_lastM {p : Nat} (W : TW S) (T : TabM h S) (hn : n ∈ kids S p) : (hI h 211 n < 0) ↔ ∀ k, k ∈ kids S p → k ≤ n := by
  have u90 := T.2.2.1
  obtain ⟨pre, suf, e⟩ := mem_split hn
  have nk := kids_mem.mp hn
  have R := (T.2.2.2.2.2 p (by have := W.1 n nk.1; omega)).2
  have srt := kids_sorted S p
  have su : ∀ z, z ∈ suf → z < S.1 := fun z hz => (kids_mem.mp (show z ∈ kids S p by rw [e]; simp [hz])).1
  rw [e] at R srt ⊢
  obtain ⟨pr', L⟩ := R.at
  rw [L.2.1]
  have srt2 := (List.pairwise_append.mp srt)
  cases suf with
  | nil =>
    refine ⟨fun _ k hk => ?_, fun _ => by decide⟩
    rcases List.mem_append.mp hk with hk | hk
    · exact Nat.le_of_lt (srt2.2.2 k hk n (List.mem_cons_self ..))
    · rw [List.mem_singleton] at hk; omega
  | cons z zs =>
    refine ⟨fun q => ?_, fun q => ?_⟩
    · exact absurd q (iv_neg (by have := su z (List.mem_cons_self ..); omega))
    · have h1 := q z (by simp)
      have h2 := (List.pairwise_cons.mp srt2.2.1).1 z (List.mem_cons_self ..)
      omega
theorem c_soundNode {K : Int32 → Hp → Prop} (W : TW S) (T : TabM h S) (A : Sa h S S.1) (hn : n < S.1) (k1 : SNo S (gM h) n → K 1 h) (k0 : ¬ SNo S (gM h) n → K 0 h) : Ca (d + 1) m_Mo_soundNode [.ref 197, .int (iv n)] h (QI K) := by
  have M := T.1
  have u90 := T.2.2.1
  have an : ainr (iv n) 90 = true := ainr_iv (by omega) (by omega)
  have cn : (iv n).toNatClampNeg = n := iv_clamp (by omega)
  have f0 : ∀ y, y < S.1 → hI h 202 y = tG S y 0 := fun y hy => T.f (j := 0) (by decide) hy
  obtain ⟨c1, c2⟩ := T.2.2.2.2.2 n hn
  have G := (W.2.2.1 n hn).1
  have w138 : ¬ sz (tG S n 0) = true → dp (tG S n 0) = true → ¬ 1000 < (gM h n).2 → InPl S n → ∀ y, Wp (d + 1) m_Mo_soundNode 138 [some (.ref 197), some (.int (iv n)), some (.int (tG S n 0)), y] [] h (QI K) := by
    intro nz hd b1 b2 y
    refine w_Mo_soundNode_138 ?_
    have e2 : fld S n = mnt S n := by unfold fld; rw [if_pos hd]
    have o2 : hI h 221 n = lkI (mnt S n) := by rw [A.2 n hn, e2]
    simp only [hR_sI, hS_sI, M.o, M.r33, M.s221, M.r20, M.s210, M.r31, M.s219, M.r32, M.s220, true_and, an, cn, o2, c1]
    cases e : mnt S n with
    | zero =>
      rw [show lkI 0 = -1 from rfl, if_pos (by decide)]
      exact k0 fun q => (q.2.2.2 hd).1 e
    | succ f =>
      obtain ⟨g1, g2⟩ := mnt_sz W.1 hn (by rw [e]; exact Nat.succ_ne_zero f)
      rw [e] at g1 g2
      have fu : f < S.1 := by have g1 : f < n := g1; omega
      have g2 : sz (tG S f 0) = true := g2
      rw [show lkI (f + 1) = iv f from rfl, if_neg (iv_neg (by omega))]
      have ne : ¬ mnt S n = 0 := by rw [e]; exact Nat.succ_ne_zero f
      by_cases c63 : tG S n 0 = 63
      · rw [if_pos c63]
        refine w_Mo_goodCases ?_
        simp only [hR_sI, hS_sI, M.o, M.r33, M.s221, M.r20, M.s210, true_and, an, cn, o2, c1]
        rintro _ rfl _ rfl
        rw [e]
        refine c_good_14 (K := fun v h => K (v &&& 1) h) W T A hn fu g2 (fun g => and1 (k1 ⟨b1, b2, fun q => absurd q nz, fun _ => ⟨ne, fun _ => by rw [e]; exact g, fun q => by rw [c63] at q; exact absurd q (by decide), fun q => by rw [c63] at q; exact absurd q (by decide)⟩⟩) (Or.inr rfl)) (fun g => and1 (k0 fun q => g (by have := (q.2.2.2 hd).2.1 c63; rw [e] at this; exact this)) (Or.inl rfl)) _ (kids S n) [] (-1) _ rfl c2 (fun x hx => (nomatch hx)) List.Pairwise.nil
      rw [if_neg c63]
      obtain ⟨x, x1, x2⟩ := G.2.2 hd
      have xk : x ∈ kids S n := kids_mem.mpr ⟨x1, x2⟩
      cases ek : kids S n with
      | nil => rw [ek] at xk; exact nomatch xk
      | cons c r =>
        have cu := (kids_gt W.1 (show c ∈ kids S n by rw [ek]; exact List.mem_cons_self ..)).2
        have ac : ainr (iv c) 90 = true := ainr_iv (by omega) (by omega)
        have cc : (iv c).toNatClampNeg = c := iv_clamp (by omega)
        rw [show hdI (c :: r) = iv c from rfl]
        simp only [ac, cc, true_and]
        by_cases c42 : tG S n 0 = 42
        · rw [if_pos c42]
          show (if 0 < (gM h c).2 then K 1 h else K 0 h)
          by_cases p : 0 < (gM h c).2
          · rw [if_pos p]
            refine k1 ⟨b1, b2, fun q => absurd q nz, fun _ => ⟨ne, fun q => absurd q c63, fun _ c' r' e' => ?_, fun q => by rw [c42] at q; exact absurd q (by decide)⟩⟩
            rw [ek] at e'; cases e'; exact p
          · rw [if_neg p]
            exact k0 fun q => p ((q.2.2.2 hd).2.2.1 c42 c r ek)
        · rw [if_neg c42]
          have c47 : tG S n 0 = 47 := by
            unfold dp at hd
            simp only [Bool.or_eq_true, decide_eq_true_iff] at hd
            rcases hd with (q | q) | q
            · exact absurd q c42
            · exact q
            · exact absurd q c63
          show (if 0 < (gM h c).1 then K 1 h else K 0 h)
          by_cases p : 0 < (gM h c).1
          · rw [if_pos p]
            refine k1 ⟨b1, b2, fun q => absurd q nz, fun _ => ⟨ne, fun q => absurd q c63, fun q => absurd q c42, fun _ c' r' e' => ?_⟩⟩
            rw [ek] at e'; cases e'; exact p
          · rw [if_neg p]
            exact k0 fun q => p ((q.2.2.2 hd).2.2.2 c47 c r ek)
  have w88 : ¬ 1000 < (gM h n).2 → InPl S n → ∀ y, Wp (d + 1) m_Mo_soundNode 88 [some (.ref 197), some (.int (iv n)), some (.int (tG S n 0)), y] [] h (QI K) := by
    intro b1 b2 y
    refine w_Mo_soundNode_88 ⟨M.o, c_sized ?_⟩
    by_cases hz : sz (tG S n 0) = true
    · rw [if_pos hz, if_neg (by decide)]
      obtain ⟨l1, l2⟩ := A.1 n hn hz
      simp only [hR_sI, hS_sI, M.o, M.r29, M.s217, M.r30, M.s218, true_and, an, cn, l1, l2]
      have nd : ¬ dp (tG S n 0) = true := fun q => by
        unfold dp at q
        simp only [Bool.or_eq_true, decide_eq_true_iff] at q
        rcases q with (q | q) | q <;> rw [q] at hz <;> cases hz
      by_cases c : hiT S n < loT S n
      · rw [if_pos c]; exact k0 fun q => q.2.2.1 hz c
      · rw [if_neg c]; exact k1 ⟨b1, b2, fun _ => c, fun q => absurd q nd⟩
    · rw [if_neg hz, if_pos rfl]
      by_cases e1 : tG S n 0 = 42
      · rw [if_pos e1]; exact w138 hz (by rw [e1]; rfl) b1 b2 _
      rw [if_neg e1]
      by_cases e2 : tG S n 0 = 47
      · rw [if_pos e2]; exact w138 hz (by rw [e2]; rfl) b1 b2 _
      rw [if_neg e2]
      by_cases e3 : tG S n 0 = 63
      · rw [if_pos e3]; exact w138 hz (by rw [e3]; rfl) b1 b2 _
      rw [if_neg e3]
      refine k1 ⟨b1, b2, fun q => absurd q hz, fun q => ?_⟩
      unfold dp at q; rw [decide_eq_false e1, decide_eq_false e2, decide_eq_false e3] at q; cases q
  have pr := T.pr hn
  have w52 : ¬ 1000 < (gM h n).2 → (tG S n 0 = 112 → ∃ q, S.2.2 n = q + 1 ∧ tG S q 0 = 123) → Wp (d + 1) m_Mo_soundNode 52 [some (.ref 197), some (.int (iv n)), some (.int (tG S n 0)), some (.int (lkI (S.2.2 n)))] [] h (QI K) := by
    intro b1 b2
    refine w_Mo_soundNode_52 ?_
    by_cases e : tG S n 0 = 114
    · rw [if_pos e]
      cases ep : S.2.2 n with
      | zero =>
        rw [show lkI 0 = -1 from rfl, if_pos (by decide)]
        exact w88 b1 ⟨b2, fun _ q z => by rw [ep] at z; cases z⟩ _
      | succ p =>
        have pn : p < n := by have := W.1 n hn; omega
        rw [show lkI (p + 1) = iv p from rfl, if_neg (iv_neg (by omega))]
        have bad : (¬ p = 0 ∨ ¬ tG S p 0 = 123 ∨ ¬ ∀ k, k ∈ kids S p → k ≤ n) → ¬ SNo S (gM h) n := by
          rintro q ⟨-, ip, -, -⟩
          obtain ⟨i1, i2, i3⟩ := ip.2 e p ep
          rcases q with q | q | q
          · exact W.2.2.2.2 p (by omega) (by omega) i2
          · exact q i1
          · exact q i3
        by_cases p0 : 0 < p
        · rw [if_pos (show 0 < iv p from (iv_lt (a := 0) (by decide) (by omega)).mpr p0)]
          exact k0 (bad (Or.inl (by omega)))
        · have p0 : p = 0 := by omega
          subst p0
          rw [if_neg (show ¬ 0 < iv 0 by decide)]
          have a0 : ainr (0 : Int32) 90 = true := by decide
          have z0 : (0 : Int32).toNatClampNeg = 0 := by decide
          have nk : n ∈ kids S 0 := kids_mem.mpr ⟨hn, ep⟩
          simp only [hR_sI, hS_sI, M.o, M.r12, M.s202, M.r21, M.s211, true_and, an, cn, a0, z0, f0 0 (by omega)]
          by_cases e3 : tG S 0 0 = 123
          · rw [if_pos e3]
            by_cases e4 : hI h 211 n < 0
            · rw [if_pos e4]
              refine w88 b1 ⟨b2, fun _ q z => ?_⟩ _
              have : q = 0 := by omega
              subst this
              exact ⟨e3, W.2.2.2.1, (nx_lastM W T nk).mp e4⟩
            · rw [if_neg e4]
              exact k0 (bad (Or.inr (Or.inr fun z => e4 ((nx_lastM W T nk).mpr z))))
          · rw [if_neg e3]
            exact k0 (bad (Or.inr (Or.inl e3)))
    · rw [if_neg e]
      exact w88 b1 ⟨b2, fun q => absurd q e⟩ _
  refine w_Mo_soundNode ?_
  simp only [hR_sI, hS_sI, M.o, M.r12, M.s202, M.r19, M.s209, M.r32, M.s220, true_and, an, cn, f0 n hn, pr]
  rintro _ rfl _ rfl
  show (if 1000 < (gM h n).2 then _ else _)
  by_cases b1 : 1000 < (gM h n).2
  · rw [if_pos b1]; exact k0 fun q => q.1 b1
  rw [if_neg b1]
  by_cases e : tG S n 0 = 112
  · rw [if_pos e]
    cases ep : S.2.2 n with
    | zero =>
      rw [show lkI 0 = -1 from rfl, if_pos (by decide)]
      refine k0 fun q => ?_
      obtain ⟨p, p1, -⟩ := q.2.1.1 e
      rw [ep] at p1; cases p1
    | succ p =>
      have pn : p < n := by have := W.1 n hn; omega
      rw [show lkI (p + 1) = iv p from rfl, if_neg (iv_neg (by omega)), iv_clamp (by omega), f0 p (by omega)]
      refine ⟨ainr_iv (by omega) (by omega), ?_⟩
      by_cases e3 : tG S p 0 = 123
      · rw [if_pos e3]
        have := w52 b1 fun _ => ⟨p, ep, e3⟩
        rw [ep] at this; exact this
      · rw [if_neg e3]
        refine k0 fun q => ?_
        obtain ⟨p', p1, p2⟩ := q.2.1.1 e
        have : p' = p := by omega
        rw [this] at p2; exact e3 p2
  · rw [if_neg e]
    exact w52 b1 fun q => absurd q e
/-- the measures are what they should be, from i on -/
def MEq (S : Tb) (g : Nat → Int64 × Int64) (i : Nat) : Prop := ∀ n, i ≤ n → n < S.1 → g n = (capM (locM S g n).1, capM (locM S g n).2)
theorem locM_congr {g g' : Nat → Int64 × Int64} (e : ∀ k, k ∈ kids S n → g k = g' k) : locM S g n = locM S g' n := by
  unfold locM
  rw [sumM_congr e]
  cases q : kids S n with
  | nil => rfl
  | cons c r =>
    dsimp only
    rw [e c (by rw [q]; exact List.mem_cons_self ..), chM_congr fun z hz => e z (by rw [q]; exact List.mem_cons_of_mem _ hz)]
theorem Sa.ms {h h' : Hp} {i : Nat} (A : Sa h S i) (x : MNf n h h') : Sa h' S i := ⟨fun k hk q => by rw [x.2 _ _ (by omega), x.2 _ _ (by omega)]; exact A.1 k hk q, fun k hk => by rw [x.1.1]; exact A.2 k hk⟩
theorem c_sa_111 {K : Int32 → Hp → Prop} {h : Hp} (W : TW S) (T : TabM h S) (A : Sa h S S.1) (k1 : (∀ n, n < S.1 → SNo S (gM h) n) → K 1 h) (k0 : ¬ (∀ n, n < S.1 → SNo S (gM h) n) → K 0 h) : ∀ (m i : Nat) (x : Int32), i + m = S.1 → ((x = 1 ∧ ∀ n, n < i → SNo S (gM h) n) ∨ (x = 0 ∧ ¬ ∀ n, n < S.1 → SNo S (gM h) n)) → Wp (d + 2) m_Mo_soundAll 111 [some (.ref 197), some (.int x), some (.int (iv i))] [] h (QI K)
  | 0, i, x, hm, hx => by
    have u90 := T.2.2.1
    refine w_Mo_soundAll_111 ⟨T.1.o, ?_⟩
    rw [T.2.1, if_neg (fun q => by have := (iv_lt (by omega) (by omega)).mp q; omega)]
    rcases hx with ⟨rfl, a⟩ | ⟨rfl, a⟩
    · exact k1 fun n hn => a n (by omega)
    · exact k0 a
  | m + 1, i, x, hm, hx => by
    have u90 := T.2.2.1
    have hil : i < S.1 := by omega
    refine w_Mo_soundAll_111 ⟨T.1.o, ?_⟩
    rw [T.2.1, if_pos ((iv_lt (by omega) (by omega)).mpr hil)]
    refine c_soundNode W T A hil (fun s => ?_) fun s => ?_
    · rintro _ rfl _ rfl
      rw [iv1, iv_add, ← iv1]
      refine c_sa_111 W T A k1 k0 m (i + 1) _ (by omega) ?_
      rcases hx with ⟨rfl, a⟩ | ⟨rfl, a⟩
      · refine Or.inl ⟨by decide, fun n hn => ?_⟩
        by_cases z : n = i
        · rw [z]; exact s
        · exact a n (by omega)
      · exact Or.inr ⟨by decide, a⟩
    · rintro _ rfl _ rfl
      rw [iv1, iv_add]
      refine c_sa_111 W T A k1 k0 m (i + 1) _ (by omega) (Or.inr ⟨?_, fun q => s (q i hil)⟩)
      rcases hx with ⟨rfl, a⟩ | ⟨rfl, a⟩ <;> decide
theorem c_sa_92 {K : Int32 → Hp → Prop} {h0 : Hp} (W : TW S) (k : ∀ h', TabM h' S → MSf h0 h' → Sa h' S S.1 → MEq S (gM h') 0 → Wp (d + 2) m_Mo_soundAll 111 [some (.ref 197), some (.int (1 : Int32)), some (.int (0 : Int32))] [] h' (QI K)) : ∀ (i : Nat) (h : Hp) (y : Option Value), i ≤ S.1 → TabM h S → MSf h0 h → Sa h S S.1 → MEq S (gM h) i → Wp (d + 2) m_Mo_soundAll 92 [some (.ref 197), some (.int (iv i - 1)), y] [] h (QI K)
  | 0, h, y, hi, T, f, A, E => by
    refine w_Mo_soundAll_92 ?_
    rw [if_pos (by decide)]
    exact k h T f A E
  | i + 1, h, y, hi, T, f, A, E => by
    have u90 := T.2.2.1
    have hil : i < S.1 := hi
    refine w_Mo_soundAll_92 ?_
    rw [show iv (i + 1) - 1 = iv i by rw [iv1, iv_sub (by omega), Nat.add_sub_cancel], if_neg (iv_neg (by omega))]
    refine ⟨T.1.o, c_Mmea W T A hil fun h' x e => ?_⟩
    rintro _ rfl
    rw [show iv i + (-1 : Int32) = iv i - 1 from (Int32.sub_eq_add_neg _ _).symm]
    refine c_sa_92 W k i h' y (by omega) (T.ms x.ms) (f.trans x.ms) (A.ms x) fun n h1 h2 => ?_
    have kk : locM S (gM h') n = locM S (gM h) n := locM_congr fun z hz => gM_f x (by have := (kids_gt W.1 hz).1; omega)
    rw [kk]
    by_cases z : n = i
    · rw [z]; exact e
    · rw [gM_f x z]; exact E n (by omega) h2
/-! the Model's measures are the exact ones -/
theorem sumC_split {g : Nat → Nat × Nat} {r : List Nat} {bits : Nat} (h : nx112 S r = false) : sumC S g r bits = (bfN bits + (sumC S g r 0).1, bfN bits + (sumC S g r 0).2) := by
  cases r with
  | nil => show (bfN bits, bfN bits) = (bfN bits + bfN 0, bfN bits + bfN 0); rfl
  | cons y r =>
    have : ¬ tG S y 0 = 112 := of_decide_eq_false h
    unfold sumC
    rw [if_neg this, if_neg this]
    have b0 : bfN 0 = 0 := rfl
    rw [b0]
    simp only [Prod.mk.injEq]
    omega
theorem sumM_jv {g : Nat → Int64 × Int64} (W : TW S) : ∀ (l : List Nat) (bits a c : Nat), (∀ k, k ∈ l → k < S.1 ∧ (tG S k 0 = 112 ∨ g k = (jv (me S k).1, jv (me S k).2))) → bits + 7 * l.length < 900 → (bits = 0 ∨ nx112 S l = true) →
    sumM S g l (iv bits) (jv a, jv c) = (jv (a + (sumC S (me S) l bits).1), jv (c + (sumC S (me S) l bits).2))
  | [], bits, a, c, hl, hb, h0 => by
    have : bits = 0 := h0.resolve_right Bool.false_ne_true
    subst this
    rfl
  | x :: l, bits, a, c, hl, hb, h0 => by
    rw [List.length_cons] at hb
    obtain ⟨xu, xg⟩ := hl x (List.mem_cons_self ..)
    have hl' : ∀ k, k ∈ l → _ := fun z hz => hl z (List.mem_cons_of_mem _ hz)
    unfold sumM sumC
    by_cases e : tG S x 0 = 112
    · rw [if_pos e, if_pos e]
      obtain ⟨d1, d2, d3, d4⟩ := dg_num' (W.2.2.1 x xu).1 (by rw [e]; rfl)
      rw [d1, iv_add]
      cases q : nx112 S l with
      | true =>
        rw [if_pos rfl]
        exact sumM_jv W l (bits + dgN S x) a c hl' (by omega) (Or.inr q)
      | false =>
        rw [if_neg (by decide), bf_64 (by omega), jv_add, jv_add, sumC_split q]
        rw [show (0 : Int32) = iv 0 from rfl, sumM_jv W l 0 _ _ hl' (by omega) (Or.inl rfl), Nat.add_assoc, Nat.add_assoc]
    · rw [if_neg e, if_neg e]
      have b0 : bits = 0 := h0.resolve_right fun q => e (of_decide_eq_true q)
      subst b0
      have xg := xg.resolve_left e
      rw [xg]
      dsimp only
      rw [jv_add, jv_add, show (0 : Int32) = iv 0 from rfl, sumM_jv W l 0 _ _ hl' (by omega) (Or.inl rfl)]
      have b0 : bfN 0 = 0 := rfl
      rw [b0, Nat.zero_add, Nat.zero_add, Nat.add_assoc, Nat.add_assoc]
theorem chM_jv {g : Nat → Int64 × Int64} : ∀ (l : List Nat) (a : Nat × Nat), (∀ k, k ∈ l → g k = (jv (me S k).1, jv (me S k).2) ∧ (me S k).1 ≤ 1000 ∧ (me S k).2 ≤ 1000) → a.1 ≤ 1000 → a.2 ≤ 1000 → chM g l (jv a.1, jv a.2) = (jv (chC (me S) l a).1, jv (chC (me S) l a).2)
  | [], a, _, _, _ => rfl
  | x :: l, a, h, h1, h2 => by
    obtain ⟨x1, x2, x3⟩ := h x (List.mem_cons_self ..)
    unfold chM chC
    rw [x1]
    dsimp only
    rw [min_jv (by omega) (by omega), max_jv (by omega) (by omega), Nat.max_comm]
    exact chM_jv l (min (me S x).1 a.1, max a.2 (me S x).2) (fun z hz => h z (List.mem_cons_of_mem _ hz)) (by show min _ _ ≤ _; omega) (by show max _ _ ≤ _; omega)
theorem locM_jv {g : Nat → Int64 × Int64} (W : TW S) (A : ∀ n, n < S.1 → AOk S n) (hn : n < S.1) (hk : ∀ k, k ∈ kids S n → g k = (jv (me S k).1, jv (me S k).2) ∧ (me S k).1 ≤ (me S k).2 ∧ (me S k).2 ≤ 1000) : locM S g n = (jv (me S n).1, jv (me S n).2) := by
  have Gk := (W.2.2.1 n hn).1
  rw [me_eq W.1 hn]
  unfold locM locN
  by_cases c1 : tG S n 0 = 123
  · rw [if_pos c1, if_pos c1]
    have := sumM_jv (S := S) (g := g) W (kids S n) 0 0 0 (fun k q => ⟨(kids_gt W.1 q).2, Or.inr (hk k q).1⟩) (by have := kids_len W.2.1.2 n; omega) (Or.inl rfl)
    rw [Nat.zero_add, Nat.zero_add] at this
    exact this
  rw [if_neg c1, if_neg c1]
  have ends : dp (tG S n 0) = true → endM S loT n = jv (posN (loT S (mnt S n - 1))) ∧ endM S hiT n = jv (posN (hiT S (mnt S n - 1))) := by
    intro hd
    obtain ⟨m1, -⟩ := (A n hn).2.2 hd
    have e : fld S n = mnt S n := by unfold fld; rw [if_pos hd]
    unfold endM
    rw [e, if_neg m1, if_neg m1, pos_m, pos_m]
    exact ⟨rfl, rfl⟩
  by_cases c2 : tG S n 0 = 42
  · rw [if_pos c2, if_pos c2]
    obtain ⟨e1, e2⟩ := ends (by rw [c2]; rfl)
    cases q : kids S n with
    | nil => rfl
    | cons c r =>
      dsimp only
      rw [(hk c (by rw [q]; exact List.mem_cons_self ..)).1, e1, e2, jv_mul, jv_mul]
  rw [if_neg c2, if_neg c2]
  by_cases c3 : tG S n 0 = 47
  · rw [if_pos c3, if_pos c3]
    obtain ⟨e1, e2⟩ := ends (by rw [c3]; rfl)
    rw [e1, e2]
  rw [if_neg c3, if_neg c3]
  by_cases c4 : tG S n 0 = 63
  · rw [if_pos c4, if_pos c4]
    obtain ⟨x, x1, x2⟩ := Gk.2.2 (by rw [c4]; rfl)
    have xk : x ∈ kids S n := kids_mem.mpr ⟨x1, x2⟩
    cases q : kids S n with
    | nil => rw [q] at xk; exact nomatch xk
    | cons c r =>
      obtain ⟨g1, g2, g3⟩ := hk c (by rw [q]; exact List.mem_cons_self ..)
      dsimp only
      rw [g1]
      have := chM_jv (S := S) (g := g) r ((me S c).1, (me S c).2) (fun z hz => by obtain ⟨a, b, c⟩ := hk z (by rw [q]; exact List.mem_cons_of_mem _ hz); exact ⟨a, by omega, c⟩) (by show (me S c).1 ≤ 1000; omega) g3
      rw [this]
      have e : chC (me S) (c :: r) (1000, 0) = chC (me S) r ((me S c).1, (me S c).2) := by
        show chC (me S) r (min (me S c).1 1000, max 0 (me S c).2) = _
        rw [Nat.min_eq_left (by omega), Nat.max_eq_right (Nat.zero_le _)]
      rw [e]
  rw [if_neg c4, if_neg c4]
  unfold baseM
  by_cases c5 : tG S n 0 = 114
  · rw [if_neg (by rw [c5]; decide), if_pos c5, if_pos c5]; rfl
  by_cases c6 : tG S n 0 = 122
  · rw [if_pos c6, if_neg c5, if_pos c6]; rfl
  rw [if_neg c6, if_neg c5, if_neg c5, if_neg c6]
  by_cases c7 : tG S n 0 = 102
  · rw [if_pos c7, if_pos c7]; rfl
  rw [if_neg c7, if_neg c7]
  by_cases c8 : tG S n 0 = 100
  · rw [if_pos c8, if_pos c8]; rfl
  rw [if_neg c8, if_neg c8]
  have hz : sz (tG S n 0) = true := by
    rcases Gk.1 with g | g | g | g
    · exact g
    · unfold sm at g
      simp only [Bool.or_eq_true, decide_eq_true_iff] at g
      rcases g with ((g | g) | g) | g <;> exact absurd g (by assumption)
    · exact absurd g c1
    · unfold dp at g
      simp only [Bool.or_eq_true, decide_eq_true_iff] at g
      rcases g with (g | g) | g <;> exact absurd g (by assumption)
  obtain ⟨d1, d2, d3, d4⟩ := dg_num' Gk hz
  rw [d1]
  by_cases c9 : tG S n 0 = 112
  · rw [if_pos c9, if_pos c9, bf_64 (by omega)]
    have : bfN (dgN S n) = 1 := by unfold bfN; omega
    rw [this]
  · rw [if_neg c9, if_neg c9, iv_jv (by omega)]
theorem cap_jv {m : Nat} (h : m < 2 ^ 63) : capM (jv m) = jv (min m 1000000) := by
  unfold capM
  rw [show (1000000 : Int64) = jv 1000000 from rfl]
  by_cases c : 1000000 < m
  · rw [if_pos ((jv_lt (by omega) h).mpr c)]; congr 1; omega
  · rw [if_neg (fun q => c ((jv_lt (by omega) h).mp q))]; congr 1; omega
/-- downwards: while all are at most 1000, the Model's measures are the exact ones -/
theorem mex {g : Nat → Int64 × Int64} (W : TW S) (A : ∀ n, n < S.1 → AOk S n) (E : MEq S g 0) : ∀ (m n : Nat), n + m = S.1 → (∀ k, n ≤ k → k < S.1 → ¬ 1000 < (g k).2) ∨ (∀ k, n ≤ k → k < S.1 → (me S k).2 ≤ 1000) → ∀ k, n ≤ k → k < S.1 → g k = (jv (me S k).1, jv (me S k).2) ∧ (me S k).1 ≤ (me S k).2 ∧ (me S k).2 ≤ 1000
  | 0, n, hm, _, k, h1, h2 => by omega
  | m + 1, n, hm, hh, k, h1, h2 => by
    have ih := mex W A E m (n + 1) (by omega) (hh.imp (fun q k a b => q k (by omega) b) fun q k a b => q k (by omega) b)
    by_cases z : k = n
    · subst z
      have kids' : ∀ x, x ∈ kids S k → _ := fun x hx => ih x (kids_gt W.1 hx).1 (kids_gt W.1 hx).2
      have ml := me_le W A h2 (fun x hx => (kids' x hx).2)
      have e := E k (Nat.zero_le _) h2
      rw [locM_jv W A h2 kids'] at e
      rw [cap_jv (by omega), cap_jv (by omega)] at e
      have le : (me S k).2 ≤ 1000 := by
        rcases hh with q | q
        · have q := q k h1 h2
          rw [e] at q
          rw [show (1000 : Int64) = jv 1000 from rfl, jv_lt (by omega) (by omega)] at q
          omega
        · exact q k h1 h2
      rw [Nat.min_eq_left (by omega), Nat.min_eq_left (by omega)] at e
      exact ⟨e, ml.1, le⟩
    · exact ih k (by omega) h2
theorem flt_ok (W : TW S) (hn : n < S.1) (hz : ¬ sz (tG S n 0) = true) : ¬ hiT S n < loT S n := by
  unfold hiT loT
  by_cases c1 : tG S n 0 = 102
  · rw [if_pos c1, if_pos c1]; decide
  rw [if_neg c1, if_neg c1]
  by_cases c2 : tG S n 0 = 100
  · rw [if_pos c2, if_pos c2]; decide
  rw [if_neg c2, if_neg c2, if_neg hz, if_neg hz]; decide
theorem snd_iff {g : Nat → Int64 × Int64} (W : TW S) (E : MEq S g 0) : (∀ n, n < S.1 → SNo S g n) ↔ Snd_ S := by
  have pos : ∀ m : Nat, m ≤ 1000 → ((0 : Int64) < jv m ↔ 0 < m) := fun m hm => jv_lt (a := 0) (by decide) (by omega)
  constructor
  · intro N
    have A : ∀ n, n < S.1 → AOk S n := fun n hn => by
      obtain ⟨n1, n2, n3, n4⟩ := N n hn
      refine ⟨n2, ?_, fun hd => ⟨(n4 hd).1, (n4 hd).2.1⟩⟩
      by_cases hz : sz (tG S n 0) = true
      · exact n3 hz
      · exact flt_ok W hn hz
    have X := mex W A E S.1 0 (Nat.zero_add _) (Or.inl fun k _ hk => (N k hk).1)
    refine ⟨A, fun n hn => ⟨(X n (Nat.zero_le _) hn).2.2, fun c a r e => ?_, fun c a r e => ?_⟩⟩
    · have au := (kids_gt W.1 (show a ∈ kids S n by rw [e]; exact List.mem_cons_self ..)).2
      have q := ((N n hn).2.2.2 (by rw [c]; rfl)).2.2.1 c a r e
      obtain ⟨x1, x2, x3⟩ := X a (Nat.zero_le _) au
      rw [x1] at q
      exact (pos _ x3).mp q
    · have au := (kids_gt W.1 (show a ∈ kids S n by rw [e]; exact List.mem_cons_self ..)).2
      have q := ((N n hn).2.2.2 (by rw [c]; rfl)).2.2.2 c a r e
      obtain ⟨x1, x2, x3⟩ := X a (Nat.zero_le _) au
      rw [x1] at q
      exact (pos _ (by omega)).mp q
  · rintro ⟨A, B⟩ n hn
    have X := mex W A E S.1 0 (Nat.zero_add _) (Or.inr fun k _ hk => (B k hk).1)
    obtain ⟨x1, x2, x3⟩ := X n (Nat.zero_le _) hn
    refine ⟨?_, (A n hn).1, fun _ => (A n hn).2.1, fun hd => ⟨((A n hn).2.2 hd).1, ((A n hn).2.2 hd).2, fun c a r e => ?_, fun c a r e => ?_⟩⟩
    · rw [x1, show (1000 : Int64) = jv 1000 from rfl, jv_lt (by omega) (by omega)]; omega
    · have au := (kids_gt W.1 (show a ∈ kids S n by rw [e]; exact List.mem_cons_self ..)).2
      obtain ⟨y1, y2, y3⟩ := X a (Nat.zero_le _) au
      rw [y1]; exact (pos _ y3).mpr ((B n hn).2.1 c a r e)
    · have au := (kids_gt W.1 (show a ∈ kids S n by rw [e]; exact List.mem_cons_self ..)).2
      obtain ⟨y1, y2, y3⟩ := X a (Nat.zero_le _) au
      rw [y1]; exact (pos _ (by omega)).mpr ((B n hn).2.2 c a r e)
/-- what the Model has of a sound table -/
def MsT (h : Hp) (S : Tb) : Prop := TabM h S ∧ Sa h S S.1 ∧ (∀ k, k < S.1 → gM h k = (jv (me S k).1, jv (me S k).2))
/-- **the Model's soundness** -/
theorem c_soundAll {K : Int32 → Hp → Prop} {h : Hp} (W : TW S) (T : TabM h S) (k0 : ¬ Snd_ S → ∀ h', MSf h h' → K 0 h') (k1 : Snd_ S → ∀ h', MSf h h' → MsT h' S → K 1 h') : Ca (d + 2) m_Mo_soundAll [.ref 197] h (QI K) := by
  refine w_Mo_soundAll (c_sa_2 (h0 := h) W (fun h1 T1 f1 A1 y => ?_) S.1 0 h _ (Nat.zero_add _) T (MSf.refl h) ⟨fun k hk => absurd hk (Nat.not_lt_zero _), fun k hk => absurd hk (Nat.not_lt_zero _)⟩)
  refine c_sa_92 W (fun h2 T2 f2 A2 E2 => ?_) S.1 h1 y (Nat.le_refl _) T1 f1 A1 fun n a b => absurd b (by omega)
  refine c_sa_111 W T2 A2 (fun q => ?_) (fun q => ?_) S.1 0 1 (Nat.zero_add _) (Or.inl ⟨rfl, fun n hn => absurd hn (Nat.not_lt_zero _)⟩)
  · have s := (snd_iff W E2).mp q
    exact k1 s h2 f2 ⟨T2, A2, fun k hk => (mex W s.1 E2 S.1 0 (Nat.zero_add _) (Or.inr fun k _ hk => (s.2 k hk).1) k (Nat.zero_le _) hk).1⟩
  · exact k0 (fun s => q ((snd_iff W E2).mpr s)) h2 f2
end MS5
