/-! the class looks through a whole table -/
def NdE (h : Hp) (b : Nat) (S : Tb) (k : Nat) : Prop := hI h (b + 2 + k) 1 = wdT S k ∧ (dp (tG S k 0) = true → hI h (b + 2 + k) 4 = tG S k 4) ∧ hL h (b + 2 + k) 11 = loT S k ∧ hL h (b + 2 + k) 12 = hiT S k
def FmT (h : Hp) (b : Nat) (S : Tb) : Prop := (hI h b 1 = iv S.1 ∧ S.1 ≤ 90) ∧ (∀ k, k < S.1 → NdA h b S k) ∧ (∀ k, k < S.1 → NdE h b S k) ∧ (∀ q, q < S.1 → RoC h b q (kids S q)) ∧ FigC h b S []
theorem kidsD_nil (S : Tb) (q : Nat) : kidsD S [] q = kids S q := by
  unfold kidsD kids
  exact List.filter_congr fun k _ => by simp
theorem ClT.fmt {h : Hp} {b : Nat} {S : Tb} (C : ClT h b S [] []) : FmT h b S ∧ ∀ k, k < S.1 → hL h (b + 2 + k) 14 = 0 := by
  obtain ⟨c1, c3, c4, c5, c6, c7⟩ := C
  refine ⟨⟨c1, c3, fun k hk => ?_, fun q hq => by rw [← kidsD_nil]; exact c5 q hq, c7⟩, fun k hk => (c4 k hk (by simp)).2.2.2.2⟩
  obtain ⟨d1, d2, d3, d4, -⟩ := c4 k hk (by simp)
  exact ⟨d1, d2, d3, d4⟩
/-- what the search and the measuring change -/
def SFr (b : Nat) (h h' : Hp) : Prop := (hI h' = hI h ∧ hS h' = hS h ∧ hN h' = hN h ∧ hU h' = hU h ∧ hD h' = hD h) ∧ (∀ c j, ¬ (b + 2 ≤ c ∧ c < b + 92 ∧ j = 5) → hR h' c j = hR h c j) ∧ (∀ c j, ¬ (b + 2 ≤ c ∧ c < b + 92 ∧ (j = 13 ∨ j = 14)) → hL h' c j = hL h c j)
theorem SFr.refl (b : Nat) (h : Hp) : SFr b h h := ⟨⟨rfl, rfl, rfl, rfl, rfl⟩, fun _ _ _ => rfl, fun _ _ _ => rfl⟩
theorem SFr.trans {b : Nat} {h h' h'' : Hp} (x : SFr b h h') (y : SFr b h' h'') : SFr b h h'' := by
  obtain ⟨⟨x1, x2, x3, x4, x5⟩, x6, x7⟩ := x
  obtain ⟨⟨y1, y2, y3, y4, y5⟩, y6, y7⟩ := y
  exact ⟨⟨y1.trans x1, y2.trans x2, y3.trans x3, y4.trans x4, y5.trans x5⟩, fun c j q => (y6 c j q).trans (x6 c j q), fun c j q => (y7 c j q).trans (x7 c j q)⟩
theorem FmT.fr {h h' : Hp} {b : Nat} {S : Tb} (F : FmT h b S) (x : SFr b h h') : FmT h' b S := by
  obtain ⟨f1, f2, f3, f4, f5⟩ := F
  obtain ⟨⟨x1, x2, x3, x4, x5⟩, x6, x7⟩ := x
  refine ⟨by rw [x1]; exact f1, fun k hk => ?_, fun k hk => ?_, fun q hq => ?_, fun k hk hE q e e2 => by rw [x1]; exact f5 k hk hE q e e2⟩
  · obtain ⟨a1, a2, a3⟩ := f2 k hk
    exact ⟨by rw [x1]; exact a1, by rw [x1]; exact a2, by rw [x6 _ _ (by omega)]; exact a3⟩
  · obtain ⟨a1, a2, a3, a4⟩ := f3 k hk
    exact ⟨by rw [x1]; exact a1, fun q => by rw [x1]; exact a2 q, by rw [x7 _ _ (by omega)]; exact a3, by rw [x7 _ _ (by omega)]; exact a4⟩
  · obtain ⟨a1, a2, a3⟩ := f4 q hq
    refine ⟨by rw [x6 _ _ (by omega)]; exact a1, by rw [x6 _ _ (by omega)]; exact a2, ?_⟩
    have : ∀ {pr : Nat} {ks : List Nat}, LkC h b pr ks → LkC h' b pr ks := by
      intro pr ks
      induction ks generalizing pr with
      | nil => intro _; trivial
      | cons z zs ih => exact fun L => ⟨by rw [x6 _ _ (by omega)]; exact L.1, by rw [x6 _ _ (by omega)]; exact L.2.1, ih L.2.2⟩
    exact this a3
theorem Fmt.fr {h h' : Hp} {b : Nat} (F : Fmt h b) (x : SFr b h h') : Fmt h' b := by
  obtain ⟨f1, f2, f3, f4⟩ := F
  obtain ⟨⟨x1, x2, x3, x4, x5⟩, x6, x7⟩ := x
  exact ⟨by rw [x2]; exact f1, by rw [x6 _ _ (by omega)]; exact f2, by rw [x2]; exact f3, fun k hk => ⟨by rw [x6 _ _ (by omega)]; exact (f4 k hk).1, by rw [x2]; exact (f4 k hk).2⟩⟩
def Fcx (h : Hp) (b : Nat) (S : Tb) : Prop := FmT h b S ∧ Fmt h b ∧ (13 ≤ b ∧ b + 92 ≤ 197) ∧ TW S
theorem Fcx.fr {h h' : Hp} {b : Nat} {S : Tb} (F : Fcx h b S) (x : SFr b h h') : Fcx h' b S := ⟨F.1.fr x, F.2.1.fr x, F.2.2⟩
/-- the row backwards -/
def BkC (h : Hp) (b : Nat) : Nat → List Nat → Prop
  | x, [] => hR h (b + 2 + x) 7 = 0
  | x, k :: r => hR h (b + 2 + x) 7 = b + 2 + k ∧ BkC h b k r
theorem bk_of {h : Hp} {b : Nat} : ∀ {pre acc : List Nat} {pr x : Nat} {suf : List Nat}, LkC h b pr (pre ++ x :: suf) → (pr = hdR b acc ∧ ∀ k r, acc = k :: r → BkC h b k r) → BkC h b x (pre.reverse ++ acc)
  | [], [], pr, x, suf, L, A => by show hR h (b + 2 + x) 7 = 0; rw [L.1, A.1]; rfl
  | [], k :: r, pr, x, suf, L, A => ⟨by rw [L.1, A.1]; rfl, A.2 k r rfl⟩
  | y :: pre, acc, pr, x, suf, L, A => by
    rw [List.reverse_cons, List.append_assoc]
    refine bk_of (pre := pre) (acc := y :: acc) (pr := b + 2 + y) L.2.2 ⟨rfl, fun k r e => ?_⟩
    simp only [List.cons.injEq] at e
    obtain ⟨rfl, rfl⟩ := e
    cases acc with
    | nil => show hR h (b + 2 + y) 7 = 0; rw [L.1, A.1]; rfl
    | cons z zs => exact ⟨by rw [L.1, A.1]; rfl, A.2 z zs rfl⟩
theorem split_lt : ∀ {pre : List Nat} {x : Nat} {suf : List Nat}, (pre ++ x :: suf).Pairwise (· < ·) → (pre ++ x :: suf).filter (fun k => decide (k < x)) = pre
  | [], x, suf, P => by
    rw [List.nil_append, List.filter_cons, if_neg (by simp), List.filter_eq_nil_iff]
    intro y hy
    have := (List.pairwise_cons.mp P).1 y hy
    simp; omega
  | y :: pre, x, suf, P => by
    have P' : (y :: (pre ++ x :: suf)).Pairwise (· < ·) := P
    have := (List.pairwise_cons.mp P').1 x (by simp)
    rw [List.cons_append, List.filter_cons, if_pos (by simpa using this), split_lt (List.pairwise_cons.mp P').2]
theorem mem_split {l : List Nat} {x : Nat} (h : x ∈ l) : ∃ pre suf, l = pre ++ x :: suf := List.append_of_mem h
theorem befs_bk {h : Hp} {b p x : Nat} {S : Tb} (R : RoC h b p (kids S p)) (hx : x ∈ kids S p) : BkC h b x (befs S p x) := by
  obtain ⟨pre, suf, e⟩ := mem_split hx
  have srt := kids_sorted S p
  unfold befs
  rw [e] at srt ⊢
  rw [split_lt srt]
  have := R.2.2
  rw [e] at this
  have q := bk_of (acc := []) this ⟨rfl, fun k r e => (by cases e)⟩
  rw [List.append_nil] at q
  exact q
/-- the row forward from x -/
theorem LkC.at {h : Hp} {b : Nat} : ∀ {pre : List Nat} {pr x : Nat} {suf : List Nat}, LkC h b pr (pre ++ x :: suf) → ∃ pr', LkC h b pr' (x :: suf)
  | [], pr, x, suf, L => ⟨pr, L⟩
  | y :: pre, pr, x, suf, L => LkC.at L.2.2
section ASN
variable {d b n : Nat} {h : Hp} {S : Tb}
theorem Fcx.n90 (F : Fcx h b S) (hn : n < S.1) : n < 90 := by have := F.1.1.2; omega
theorem Fcx.s2 (F : Fcx h b S) (hn : n < S.1) : (hS h (b + 2 + n)).1 = 2 := (F.2.1.2.2.2 n (F.n90 hn)).2
theorem Fcx.par (F : Fcx h b S) (hn : n < S.1) {p : Nat} (e : S.2.2 n = p + 1) : p < n := by have := F.2.2.2.1 n hn; omega
theorem c_isPartOf {K : Int32 → Hp → Prop} (F : Fcx h b S) (hn : n < S.1) {x : Int32} (k1 : ∀ p, S.2.2 n = p + 1 → tG S p 0 = x → K 1 h) (k0 : (∀ p, S.2.2 n = p + 1 → ¬ tG S p 0 = x) → K 0 h) : Ca d m_No_isPartOf [.ref (b + 2 + n), .int x] h (QI K) := by
  obtain ⟨a1, a2, a3⟩ := F.1.2.1 n hn
  refine w_No_isPartOf ⟨F.s2 hn, ?_⟩
  rw [a3]
  cases e : S.2.2 n with
  | zero =>
    show (if (0 : Nat) = 0 then _ else _)
    rw [if_pos rfl]; exact k0 fun p q => by rw [e] at q; cases q
  | succ p =>
    have pn := F.par hn e
    show (if b + 2 + p = 0 then _ else _)
    rw [if_neg (by omega)]
    refine ⟨F.s2 (by omega), ?_⟩
    show (if hI h (b + 2 + p) 0 = x then _ else _)
    rw [(F.1.2.1 p (by omega)).1]
    by_cases c : tG S p 0 = x
    · rw [if_pos c]; exact k1 p e c
    · rw [if_neg c]; exact k0 fun q q2 => by
        have : q = p := by omega
        rw [this]; exact c
theorem nx_last {p : Nat} (F : Fcx h b S) (hn : n ∈ kids S p) : (hR h (b + 2 + n) 8 = 0) ↔ ∀ k, k ∈ kids S p → k ≤ n := by
  obtain ⟨pre, suf, e⟩ := mem_split hn
  have nk := kids_mem.mp hn
  have pl := F.par nk.1 nk.2
  have R := (F.1.2.2.2.1 p (by have := nk.1; omega)).2.2
  have srt := kids_sorted S p
  rw [e] at R srt ⊢
  obtain ⟨pr', L⟩ := R.at
  rw [L.2.1]
  have srt2 := (List.pairwise_append.mp srt)
  cases suf with
  | nil =>
    refine ⟨fun _ k hk => ?_, fun _ => rfl⟩
    rcases List.mem_append.mp hk with hk | hk
    · exact Nat.le_of_lt (srt2.2.2 k hk n (List.mem_cons_self ..))
    · rw [List.mem_singleton] at hk; omega
  | cons z zs =>
    refine ⟨fun q => ?_, fun q => ?_⟩
    · have q : b + 2 + z = 0 := q
      omega
    · have h1 := q z (by simp)
      have h2 := (List.pairwise_cons.mp srt2.2.1).1 z (List.mem_cons_self ..)
      omega
theorem c_isInPlace {K : Int32 → Hp → Prop} (F : Fcx h b S) (hn : n < S.1) (k1 : InPl S n → K 1 h) (k0 : ¬ InPl S n → K 0 h) : Ca (d + 2) m_Fo_isInPlace [.ref (b + 2 + n)] h (QI K) := by
  obtain ⟨a1, a2, a3⟩ := F.1.2.1 n hn
  refine w_Fo_isInPlace ⟨F.s2 hn, ?_⟩
  rw [a1, a3]
  by_cases c1 : tG S n 0 = 112
  · rw [if_pos c1]
    refine c_isPartOf F hn (fun p e q => and1 (k1 ⟨fun _ => ⟨p, e, q⟩, fun z => by rw [c1] at z; exact absurd z (by decide)⟩) (Or.inr rfl)) fun q => and1 (k0 fun z => ?_) (Or.inl rfl)
    obtain ⟨p, e, w⟩ := z.1 c1
    exact q p e w
  rw [if_neg c1]
  by_cases c2 : tG S n 0 = 114
  · rw [if_pos c2]
    cases e : S.2.2 n with
    | zero =>
      show (if (0 : Nat) = 0 then _ else _)
      rw [if_pos rfl]
      exact k1 ⟨fun z => absurd z c1, fun _ q z => by rw [e] at z; cases z⟩
    | succ p =>
      have pn := F.par hn e
      show (if b + 2 + p = 0 then _ else _)
      rw [if_neg (by omega)]
      have nk : n ∈ kids S p := kids_mem.mpr ⟨hn, e⟩
      refine w_Fo_isLastOfWhole ⟨F.s2 hn, c_isPartOf F hn (fun p' e' q => ?_) fun q => ?_⟩
      · have : p' = p := by omega
        subst this
        rw [if_neg (by decide), a3, e]
        refine ⟨F.s2 hn, F.s2 (show p' < S.1 by omega), ?_⟩
        show (if hR h (b + 2 + p') 6 = 0 then _ else _)
        rw [(F.1.2.1 p' (by omega)).2.2]
        cases e2 : S.2.2 p' with
        | zero =>
          show (if (0 : Nat) = 0 then _ else _)
          rw [if_pos rfl]
          by_cases l : hR h (b + 2 + n) 8 = 0
          · rw [if_pos l, if_neg (by decide)]
            refine k1 ⟨fun z => absurd z c1, fun _ q' z => ?_⟩
            have : q' = p' := by omega
            subst this
            exact ⟨q, e2, (nx_last F nk).mp l⟩
          · rw [if_neg l, if_pos rfl]
            refine k0 fun z => l ((nx_last F nk).mpr (z.2 c2 p' e).2.2)
        | succ r =>
          show (if b + 2 + r = 0 then _ else _)
          rw [if_neg (by omega), if_pos rfl]
          exact k0 fun z => by have := (z.2 c2 p' e).2.1; rw [e2] at this; cases this
      · rw [if_pos rfl]
        exact k0 fun z => q p e (z.2 c2 p e).1
  · rw [if_neg c2]
    exact k1 ⟨fun z => absurd z c1, fun z => absurd z c2⟩
theorem c_canBeMeant {K : Int32 → Hp → Prop} (F : Fcx h b S) (hn : n < S.1) (k : K (if sz (tG S n 0) = true then 1 else 0) h) : Ca d m_No_canBeMeant [.ref (b + 2 + n)] h (QI K) := by
  refine w_No_canBeMeant ⟨F.s2 hn, ?_⟩
  rw [(F.1.2.1 n hn).1]
  unfold sz at k
  by_cases a1 : tG S n 0 = 117
  · rw [if_pos a1]; rw [a1] at k; exact k
  rw [if_neg a1]
  by_cases a2 : tG S n 0 = 118
  · rw [if_pos a2]; rw [a2] at k; exact k
  rw [if_neg a2]
  by_cases a3 : tG S n 0 = 115
  · rw [if_pos a3]; rw [a3] at k; exact k
  rw [if_neg a3]
  by_cases a4 : tG S n 0 = 112
  · rw [if_pos a4]; rw [a4] at k; exact k
  rw [if_neg a4]
  rw [decide_eq_false a1, decide_eq_false a2, decide_eq_false a3, decide_eq_false a4] at k
  exact k
theorem c_latest_5 {K : Nat → Hp → Prop} {key : Int32} (F : Fcx h b S) {y : Option Value} : ∀ (l : List Nat) (x : Nat), BkC h b x l → (∀ k, k ∈ l → k < S.1) → K (rfN b (lkB S key l)) h → Wp (d + 1) m_Fo_latestBefore 5 [y, some (.int key), some (.ref (hR h (b + 2 + x) 7))] [] h (QR K)
  | [], x, B, hl, k => by
    refine w_Fo_latestBefore_5 ?_
    rw [if_pos (show hR h (b + 2 + x) 7 = 0 from B)]; exact k
  | z :: l, x, B, hl, k => by
    have hz := hl z (List.mem_cons_self ..)
    refine w_Fo_latestBefore_5 ?_
    rw [B.1, if_neg (by omega), (F.1.2.1 z hz).2.1]
    refine ⟨F.s2 hz, ?_⟩
    unfold lkB at k
    by_cases c : tG S z 7 = key
    · rw [if_pos c]
      refine c_canBeMeant F hz ?_
      by_cases e : sz (tG S z 0) = true
      · rw [if_pos e, if_neg (by decide)]
        rw [if_pos ⟨c, e⟩] at k; exact k
      · rw [if_neg e, if_pos rfl]
        rw [if_neg (fun q => e q.2)] at k
        refine ⟨F.s2 hz, ?_⟩
        rintro _ rfl
        exact c_latest_5 F l z B.2 (fun y hy => hl y (List.mem_cons_of_mem _ hy)) k
    · rw [if_neg c]
      rw [if_neg (fun q => c q.1)] at k
      rintro _ rfl
      exact c_latest_5 F l z B.2 (fun y hy => hl y (List.mem_cons_of_mem _ hy)) k
theorem befs_lt {p x k : Nat} (h : k ∈ befs S p x) : k < S.1 ∧ k < x := by
  unfold befs at h
  rw [List.mem_reverse, List.mem_filter, decide_eq_true_iff] at h
  exact ⟨(kids_mem.mp h.1).1, h.2⟩
theorem c_meant_2 {K : Nat → Hp → Prop} {r : Nat} {key : Int32} (F : Fcx h b S) (hr : r < S.1) (hkey : hI h (b + 2 + r) 4 = key) : ∀ (f x : Nat) (y : Option Value), x < S.1 → x < f → K (rfN b (mntF S key f x)) h → Wp (d + 2) m_Fo_fieldMeantIn 2 [some (.ref (b + 2 + r)), some (.ref (b + 2 + x)), y] [] h (QR K)
  | 0, x, y, hx, hf, k => absurd hf (Nat.not_lt_zero _)
  | f + 1, x, y, hx, hf, k => by
    refine w_Fo_fieldMeantIn_2 ?_
    rw [if_neg (by omega)]
    have a3 := (F.1.2.1 x hx).2.2
    have up : ∀ p, S.2.2 x = p + 1 → K (rfN b (mntF S key f p)) h → ∀ y, Wp (d + 2) m_Fo_fieldMeantIn 2 [some (.ref (b + 2 + r)), some (.ref (hR h (b + 2 + x) 6)), y] [] h (QR K) := by
      intro p e k y
      have px := F.par hx e
      rw [a3, e]
      exact c_meant_2 F hr hkey f p y (by omega) (by omega) k
    refine ⟨F.s2 hx, c_isPartOf F hx (fun p e q => ?_) fun q => ?_⟩
    · rw [if_neg (by decide)]
      refine ⟨F.s2 hr, ?_⟩
      have px := F.par hx e
      have xk : x ∈ kids S p := kids_mem.mpr ⟨hx, e⟩
      unfold mntF at k
      rw [e] at k
      dsimp only at k
      refine w_Fo_latestBefore ⟨F.s2 hx, ?_⟩
      rintro _ rfl
      rw [hkey]
      refine c_latest_5 F (befs S p x) x (befs_bk (F.1.2.2.2.1 p (by omega)) xk) (fun k hk => (befs_lt hk).1) ?_
      by_cases z : lkB S key (befs S p x) = 0
      · rw [z]
        show (if (0 : Nat) = 0 then _ else _)
        rw [if_pos rfl]
        rw [if_neg (fun w => w.2 z)] at k
        refine ⟨F.s2 hx, ?_⟩
        rintro _ rfl
        exact up p e k _
      · rw [if_pos ⟨q, z⟩] at k
        cases e2 : lkB S key (befs S p x) with
        | zero => exact absurd e2 z
        | succ w =>
          rw [e2] at k
          show (if b + 2 + w = 0 then _ else _)
          rw [if_neg (by omega)]; exact k
    · rw [if_pos rfl]
      refine ⟨F.s2 hx, ?_⟩
      rintro _ rfl
      unfold mntF at k
      cases e : S.2.2 x with
      | zero =>
        rw [e] at k
        rw [a3, e]
        show Wp (d + 2) m_Fo_fieldMeantIn 2 [some (.ref (b + 2 + r)), some (.ref 0), y] [] h (QR K)
        refine w_Fo_fieldMeantIn_2 ?_
        rw [if_pos rfl]; exact k
      | succ p =>
        rw [e] at k
        dsimp only at k
        rw [if_neg (fun w => q p e w.1)] at k
        exact up p e k y
theorem c_fieldMeant {K : Nat → Hp → Prop} (F : Fcx h b S) (hn : n < S.1) (hd : dp (tG S n 0) = true) (k : K (rfN b (mnt S n)) h) : Ca (d + 2) m_Fo_fieldMeantIn [.ref (b + 2 + n)] h (QR K) :=
  w_Fo_fieldMeantIn (c_meant_2 F hn ((F.1.2.2.1 n hn).2.1 hd) (n + 1) n _ hn (Nat.lt_succ_self _) k)
end ASN
