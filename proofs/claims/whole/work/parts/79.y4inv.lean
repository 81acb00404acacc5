/-! what a pass keeps; it never gets stuck -/
def BfF (S : Tb) (m : Nat) : Nat → Nat → Prop
  | 0, _ => False
  | f + 1, x => match S.2.2 x with
    | 0 => False
    | p + 1 => (tG S p 0 = 123 ∧ S.2.2 m = p + 1 ∧ m < x) ∨ BfF S m f p
/-- m is a part before n, or before one around n -/
def Bf (S : Tb) (n m : Nat) : Prop := BfF S m (n + 1) n
theorem BfF_s (S : Tb) (m f x : Nat) : BfF S m (f + 1) x = (match S.2.2 x with | 0 => False | p + 1 => (tG S p 0 = 123 ∧ S.2.2 m = p + 1 ∧ m < x) ∨ BfF S m f p) := rfl
theorem BfF_st {S : Tb} (W : WfP S) {m : Nat} : ∀ f g x, x < S.1 → x < f → x < g → (BfF S m f x ↔ BfF S m g x)
  | 0, _, x, _, h, _ => absurd h (Nat.not_lt_zero _)
  | _, 0, x, _, _, h => absurd h (Nat.not_lt_zero _)
  | f + 1, g + 1, x, hx, h1, h2 => by
    rw [BfF_s, BfF_s]
    have w := W x hx
    cases e : S.2.2 x with
    | zero => exact Iff.rfl
    | succ p =>
      have := BfF_st W (m := m) f g p (by omega) (by omega) (by omega)
      show (_ ∨ _) ↔ (_ ∨ _)
      rw [this]
theorem bf_kid {S : Tb} (W : WfP S) {n c m : Nat} (hc : c ∈ kids S n) : Bf S c m ↔ (tG S n 0 = 123 ∧ m ∈ kids S n ∧ m < c) ∨ Bf S n m := by
  obtain ⟨c1, c2⟩ := kids_mem.mp hc
  have w := W c c1
  unfold Bf
  rw [BfF_s, c2]
  show (_ ∨ _) ↔ _
  rw [BfF_st W c (n + 1) n (by omega) (by omega) (by omega)]
  constructor
  · rintro (⟨a, b, q⟩ | a)
    · exact Or.inl ⟨a, kids_mem.mpr ⟨by omega, b⟩, q⟩
    · exact Or.inr a
  · rintro (⟨a, b, q⟩ | a)
    · exact Or.inl ⟨a, (kids_mem.mp b).2, q⟩
    · exact Or.inr a
theorem mnt_bfF {S : Tb} (W : WfP S) {key : Int32} : ∀ f x k, x < S.1 → mntF S key f x = k + 1 → BfF S k f x ∧ sz (tG S k 0) = true
  | 0, x, k, hx, h => by cases h
  | f + 1, x, k, hx, h => by
    rw [BfF_s]
    unfold mntF at h
    split at h
    · cases h
    · rename_i p e
      have px := W x hx
      rw [e]
      split at h
      · rename_i c
        obtain ⟨a, b⟩ := lkB_mem h
        unfold befs at a
        rw [List.mem_reverse, List.mem_filter, decide_eq_true_iff] at a
        exact ⟨Or.inl ⟨c.1, (kids_mem.mp a.1).2, a.2⟩, b⟩
      · obtain ⟨a, b⟩ := mnt_bfF W f p k (by omega) h
        exact ⟨Or.inr a, b⟩
theorem mnt_bf {S : Tb} (W : WfP S) {n k : Nat} (hn : n < S.1) (h : mnt S n = k + 1) : Bf S n k ∧ sz (tG S k 0) = true := mnt_bfF W (n + 1) n k hn h
/-- n lies D levels deep -/
def chn (G : Nat → Nat) : Nat → Nat → Prop
  | 0, _ => False
  | D + 1, k => match G k with
    | 0 => D = 0
    | p + 1 => chn G D p
theorem chn_s (G : Nat → Nat) (D k : Nat) : chn G (D + 1) k = (match G k with | 0 => D = 0 | p + 1 => chn G D p) := rfl
theorem chn_le {G : Nat → Nat} : ∀ f D k, lv G f k → chn G D k → D ≤ f
  | 0, _, _, h, _ => h.elim
  | f + 1, 0, k, _, h => h.elim
  | f + 1, D + 1, k, a, b => by
    rw [lv_s] at a; rw [chn_s] at b
    cases e : G k with
    | zero => rw [e] at b; have : D = 0 := b; omega
    | succ p =>
      rw [e] at a b
      have := chn_le f D p a b
      omega
theorem chn_kid {S : Tb} {D n c : Nat} (hc : c ∈ kids S n) (h : chn S.2.2 D n) : chn S.2.2 (D + 1) c := by
  rw [chn_s, (kids_mem.mp hc).2]; exact h
section INVP
variable {ω : Type} {S : Tb} {U : Nat → Nat → ω → Int32 × Nat × ω × Int64} {sp : Nat → ω → Int32 × Nat}
/-- the value of m is known, and in its bounds -/
def Rg (S : Tb) (s : Ps ω) (m : Nat) : Prop := ∃ v, s.2.2.1 m = some v ∧ ¬ v < loT S m ∧ ¬ hiT S m < v
def KV (S : Tb) (s s' : Ps ω) : Prop := ∀ m, Rg S s m → Rg S s' m
def Av (S : Tb) (n : Nat) (s : Ps ω) : Prop := ∀ m, Bf S n m → sz (tG S m 0) = true → Rg S s m
def UOk (S : Tb) (U : Nat → Nat → ω → Int32 × Nat × ω × Int64) : Prop := ∀ (k B : Nat) (w : ω), k < S.1 → (sz (tG S k 0) = true ∨ sm (tG S k 0) = true) → ¬ (U k B w).1 = 7 ∧ ((U k B w).1 = 0 → B ≤ (U k B w).2.1 ∧ (tG S k 0 = 112 ∨ 0 < (me S k).1 → B < (U k B w).2.1) ∧ (¬ tG S k 0 = 112 → B % 8 = 0 → (U k B w).2.1 % 8 = 0) ∧ (sz (tG S k 0) = true → ¬ (U k B w).2.2.2 < loT S k ∧ ¬ hiT S k < (U k B w).2.2.2))
def SOk (sp : Nat → ω → Int32 × Nat) : Prop := ∀ (B : Nat) (w : ω), ¬ (sp B w).1 = 7 ∧ ((sp B w).1 = 0 → B ≤ (sp B w).2 ∧ (sp B w).2 % 8 = 0) ∧ (B % 8 = 0 → sp B w = (0, B))
/-- how node n's pass from s comes out -/
def Fn (S : Tb) (n : Nat) (s : Ps ω) (o : Int32 × Ps ω) : Prop := ¬ o.1 = 7 ∧ (o.1 = 0 → s.1 ≤ o.2.1 ∧ (tG S n 0 = 112 ∨ 0 < (me S n).1 → s.1 < o.2.1) ∧ (¬ tG S n 0 = 112 → o.2.1 % 8 = 0) ∧ KV S s o.2 ∧ (sz (tG S n 0) = true → Rg S o.2 n))
theorem KV.trans {s s' s'' : Ps ω} (a : KV S s s') (b : KV S s' s'') : KV S s s'' := fun m h => b m (a m h)
theorem Av.kv {n : Nat} {s s' : Ps ω} (A : Av S n s) (k : KV S s s') : Av S n s' := fun m h z => k m (A m h z)
def RecI (S : Tb) (U : Nat → Nat → ω → Int32 × Nat × ω × Int64) (sp : Nat → ω → Int32 × Nat) (f : Nat) : Prop := ∀ (D n : Nat) (s : Ps ω), D + f = 6 → n < S.1 → chn S.2.2 D n → Av S n s → (¬ tG S n 0 = 112 → s.1 % 8 = 0) → Fn S n s (psF S U sp f n s)
theorem i_flds (T : TW S) (hs : SOk (ω := ω) sp) {f D n : Nat} (hD : D + f = 5) (hn : n < S.1) (h123 : tG S n 0 = 123) (hc : chn S.2.2 D n) (R : RecI S U sp f) : ∀ (l pre : List Nat) (s : Ps ω) (bits : Nat), kids S n = pre ++ l → Av S n s → (∀ m, m ∈ pre → sz (tG S m 0) = true → Rg S s m) →
    ¬ (pFl S sp (psF S U sp f) l s).1 = 7 ∧ ((pFl S sp (psF S U sp f) l s).1 = 0 → s.1 ≤ (pFl S sp (psF S U sp f) l s).2.1 ∧ (0 < (sumC S (me S) l bits).1 → bits = 0 → s.1 < (pFl S sp (psF S U sp f) l s).2.1) ∧ (pFl S sp (psF S U sp f) l s).2.1 % 8 = 0 ∧ KV S s (pFl S sp (psF S U sp f) l s).2)
  | [], pre, s, bits, e, A, hp => by
    obtain ⟨q1, q2, q3⟩ := hs s.1 s.2.1
    unfold pFl spP
    refine ⟨q1, fun z => ?_⟩
    obtain ⟨a, b⟩ := q2 z
    refine ⟨a, fun u v => ?_, b, fun m h => h⟩
    rw [v] at u
    exact absurd (show (0 : Nat) < 0 from u) (Nat.lt_irrefl 0)
  | x :: l, pre, s, bits, e, A, hp => by
    have xk : x ∈ kids S n := by rw [e]; simp
    obtain ⟨x1, x2⟩ := kids_mem.mp xk
    have e' : kids S n = (pre ++ [x]) ++ l := by rw [e]; simp
    have srt : (kids S n).Pairwise (· < ·) := List.Pairwise.filter _ List.pairwise_lt_range
    have go : ∀ (s1 : Ps ω) (b1 : Nat), KV S s s1 → s.1 ≤ s1.1 → (¬ tG S x 0 = 112 → s1.1 % 8 = 0) →
        ¬ (bnd (psF S U sp f x s1) (pFl S sp (psF S U sp f) l)).1 = 7 ∧ ((bnd (psF S U sp f x s1) (pFl S sp (psF S U sp f) l)).1 = 0 → s.1 ≤ (bnd (psF S U sp f x s1) (pFl S sp (psF S U sp f) l)).2.1 ∧ ((tG S x 0 = 112 ∨ 0 < (me S x).1 ∨ (b1 = 0 ∧ 0 < (sumC S (me S) l b1).1)) → s.1 < (bnd (psF S U sp f x s1) (pFl S sp (psF S U sp f) l)).2.1) ∧ (bnd (psF S U sp f x s1) (pFl S sp (psF S U sp f) l)).2.1 % 8 = 0 ∧ KV S s (bnd (psF S U sp f x s1) (pFl S sp (psF S U sp f) l)).2) := by
      intro s1 b1 k1 le1 al
      have Ax : Av S x s1 := by
        intro m hm hz
        rcases (bf_kid T.1 xk).mp hm with ⟨-, m1, m2⟩ | q
        · rw [e] at m1 srt
          have : m ∈ pre := by
            rcases List.mem_append.mp m1 with z | z
            · exact z
            · exfalso
              rw [List.pairwise_append] at srt
              have s2 := srt.2.1
              rcases List.mem_cons.mp z with z | z
              · omega
              · have := (List.pairwise_cons.mp s2).1 m z; omega
          exact k1 m (hp m this hz)
        · exact k1 m (A m q hz)
      obtain ⟨r1, r2⟩ := R (D + 1) x s1 (by omega) x1 (chn_kid xk hc) Ax al
      by_cases z : (psF S U sp f x s1).1 = 0
      · rw [bnd_0 z]
        obtain ⟨a1, a2, a3, a4, a5⟩ := r2 z
        have ih := i_flds T hs hD hn h123 hc R l (pre ++ [x]) (psF S U sp f x s1).2 b1 e' (A.kv (k1.trans a4)) (fun m hm hz => by
          rcases List.mem_append.mp hm with q | q
          · exact a4 m (k1 m (hp m q hz))
          · have : m = x := by simpa using q
            rw [this] at hz ⊢; exact a5 hz)
        refine ⟨ih.1, fun y => ?_⟩
        obtain ⟨c1, c2, c3, c4⟩ := ih.2 y
        refine ⟨by omega, fun q => ?_, c3, (k1.trans a4).trans c4⟩
        rcases q with q | q | ⟨q, q'⟩
        · have := a2 (Or.inl q); omega
        · have := a2 (Or.inr q); omega
        · have := c2 q' q; omega
      · rw [bnd_n z]
        exact ⟨r1, fun y => absurd y z⟩
    unfold pFl
    by_cases p : tG S x 0 = 112
    · rw [if_pos p, bnd_0 rfl]
      obtain ⟨g1, g2⟩ := go s (bits + dgN S x) (fun m h => h) (Nat.le_refl _) (fun z => absurd p z)
      refine ⟨g1, fun y => ?_⟩
      obtain ⟨c1, c2, c3, c4⟩ := g2 y
      exact ⟨c1, fun _ _ => c2 (Or.inl p), c3, c4⟩
    · rw [if_neg p]
      obtain ⟨q1, q2, q3⟩ := hs s.1 s.2.1
      by_cases z : (spP sp s).1 = 0
      · rw [bnd_0 z]
        obtain ⟨a, b⟩ := q2 z
        obtain ⟨g1, g2⟩ := go (spP sp s).2 0 (fun m h => h) a (fun _ => b)
        refine ⟨g1, fun y => ?_⟩
        obtain ⟨c1, c2, c3, c4⟩ := g2 y
        refine ⟨c1, fun u v => c2 ?_, c3, c4⟩
        unfold sumC at u
        rw [if_neg p, v, show bfN 0 = 0 from rfl] at u
        have u : 0 < 0 + (me S x).1 + (sumC S (me S) l 0).1 := u
        by_cases w : 0 < (me S x).1
        · exact Or.inr (Or.inl w)
        · exact Or.inr (Or.inr ⟨rfl, by omega⟩)
      · rw [bnd_n z]
        exact ⟨q1, fun y => absurd y z⟩
theorem i_ctd {f D n c : Nat} {r : List Nat} (hD : D + f = 5) (hn : n < S.1) (hk : kids S n = c :: r) (nb : ¬ tG S c 0 = 112) (h123 : ¬ tG S n 0 = 123) (T : TW S) (hc : chn S.2.2 D n) (R : RecI S U sp f) : ∀ (m : Nat) (s : Ps ω), Av S n s → s.1 % 8 = 0 →
    ¬ (pCt (psF S U sp f) c m s).1 = 7 ∧ ((pCt (psF S U sp f) c m s).1 = 0 → s.1 ≤ (pCt (psF S U sp f) c m s).2.1 ∧ (0 < m → 0 < (me S c).1 → s.1 < (pCt (psF S U sp f) c m s).2.1) ∧ (pCt (psF S U sp f) c m s).2.1 % 8 = 0 ∧ KV S s (pCt (psF S U sp f) c m s).2)
  | 0, s, A, al => ⟨show ¬ (0 : Int32) = 7 by decide, fun _ => ⟨Nat.le_refl _, fun z => absurd z (Nat.lt_irrefl 0), al, fun m h => h⟩⟩
  | m + 1, s, A, al => by
    have ck : c ∈ kids S n := by rw [hk]; simp
    have c1 := (kids_mem.mp ck).1
    have Ac : Av S c s := fun q hq hz => by
      rcases (bf_kid T.1 ck).mp hq with ⟨z, -⟩ | z
      · exact absurd z h123
      · exact A q z hz
    obtain ⟨r1, r2⟩ := R (D + 1) c s (by omega) c1 (chn_kid ck hc) Ac (fun _ => al)
    unfold pCt
    by_cases z : (psF S U sp f c s).1 = 0
    · rw [bnd_0 z]
      obtain ⟨a1, a2, a3, a4, a5⟩ := r2 z
      obtain ⟨i1, i2⟩ := i_ctd hD hn hk nb h123 T hc R m (psF S U sp f c s).2 (A.kv a4) (a3 nb)
      refine ⟨i1, fun y => ?_⟩
      obtain ⟨b1, b2, b3, b4⟩ := i2 y
      refine ⟨by omega, fun _ q => ?_, b3, a4.trans b4⟩
      have := a2 (Or.inr q); omega
    · rw [bnd_n z]
      exact ⟨r1, fun y => absurd y z⟩
theorem i_szd {f D n c e : Nat} {r : List Nat} (hD : D + f = 5) (hn : n < S.1) (hk : kids S n = c :: r) (nb : ¬ tG S c 0 = 112) (h123 : ¬ tG S n 0 = 123) (T : TW S) (hc : chn S.2.2 D n) (hm : 0 < (me S c).1) (R : RecI S U sp f) : ∀ (m : Nat) (s : Ps ω), Av S n s → s.1 % 8 = 0 → e ≤ bfN s.1 + m →
    ¬ (pSd (psF S U sp f) c e m s).1 = 7 ∧ ((pSd (psF S U sp f) c e m s).1 = 0 → s.1 ≤ (pSd (psF S U sp f) c e m s).2.1 ∧ bfN (pSd (psF S U sp f) c e m s).2.1 = e ∧ (pSd (psF S U sp f) c e m s).2.1 % 8 = 0 ∧ KV S s (pSd (psF S U sp f) c e m s).2) := by
  have fin : ∀ s : Ps ω, s.1 % 8 = 0 → ¬ bfN s.1 < e → ¬ (if e < bfN s.1 then (2, s) else (0, s) : Int32 × Ps ω).1 = 7 ∧ ((if e < bfN s.1 then (2, s) else (0, s) : Int32 × Ps ω).1 = 0 → s.1 ≤ (if e < bfN s.1 then (2, s) else (0, s) : Int32 × Ps ω).2.1 ∧ bfN (if e < bfN s.1 then (2, s) else (0, s) : Int32 × Ps ω).2.1 = e ∧ (if e < bfN s.1 then (2, s) else (0, s) : Int32 × Ps ω).2.1 % 8 = 0 ∧ KV S s (if e < bfN s.1 then (2, s) else (0, s) : Int32 × Ps ω).2) := by
    intro s al q
    by_cases p : e < bfN s.1
    · rw [if_pos p]; exact ⟨by show ¬ (2 : Int32) = 7; decide, fun z => absurd z (show ¬ (2 : Int32) = 0 by decide)⟩
    · rw [if_neg p]; exact ⟨by show ¬ (0 : Int32) = 7; decide, fun _ => ⟨Nat.le_refl _, by show bfN s.1 = e; omega, al, fun m h => h⟩⟩
  intro m
  induction m with
  | zero =>
    intro s A al le
    unfold pSd
    rw [if_neg (show ¬ bfN s.1 < e by omega)]
    exact fin s al (by omega)
  | succ m ih =>
    intro s A al le
    unfold pSd
    by_cases q : bfN s.1 < e
    · rw [if_pos q]
      have ck : c ∈ kids S n := by rw [hk]; simp
      have c1 := (kids_mem.mp ck).1
      have Ac : Av S c s := fun q hq hz => by
        rcases (bf_kid T.1 ck).mp hq with ⟨z, -⟩ | z
        · exact absurd z h123
        · exact A q z hz
      obtain ⟨r1, r2⟩ := R (D + 1) c s (by omega) c1 (chn_kid ck hc) Ac (fun _ => al)
      by_cases z : (psF S U sp f c s).1 = 0
      · rw [bnd_0 z]
        obtain ⟨a1, a2, a3, a4, a5⟩ := r2 z
        have p1 := a2 (Or.inr hm)
        have p2 := a3 nb
        obtain ⟨i1, i2⟩ := ih (psF S U sp f c s).2 (A.kv a4) p2 (by unfold bfN at le ⊢; omega)
        refine ⟨i1, fun y => ?_⟩
        obtain ⟨b1, b2, b3, b4⟩ := i2 y
        exact ⟨by omega, b2, b3, a4.trans b4⟩
      · rw [bnd_n z]
        exact ⟨r1, fun y => absurd y z⟩
    · rw [if_neg q]; exact fin s al q
theorem chC_min {g : Nat → Nat × Nat} : ∀ (l : List Nat) (a : Nat × Nat), (chC g l a).1 ≤ a.1 ∧ ∀ k, k ∈ l → (chC g l a).1 ≤ (g k).1
  | [], a => ⟨Nat.le_refl _, fun k h => (by cases h)⟩
  | x :: l, a => by
    obtain ⟨i1, i2⟩ := chC_min (g := g) l (min (g x).1 a.1, max a.2 (g x).2)
    unfold chC
    have i1 : (chC g l (min (g x).1 a.1, max a.2 (g x).2)).1 ≤ min (g x).1 a.1 := i1
    refine ⟨by omega, fun k hk => ?_⟩
    rcases List.mem_cons.mp hk with rfl | hk
    · omega
    · exact i2 k hk
theorem i_chs {f : Nat} {v : Int64} {s : Ps ω} {P : Nat → Int32 × Ps ω → Prop} : ∀ l : List Nat, (∀ k, k ∈ l → P k (psF S U sp f k s)) → ((pCh S (psF S U sp f) v l s) = (2, s) ∨ ∃ k, k ∈ l ∧ P k (pCh S (psF S U sp f) v l s))
  | [], _ => Or.inl rfl
  | x :: l, h => by
    unfold pCh
    by_cases q : (tG S x 6).toInt64 = v
    · rw [if_pos q]; exact Or.inr ⟨x, by simp, h x (by simp)⟩
    · rw [if_neg q]
      rcases i_chs l (fun k hk => h k (List.mem_cons_of_mem _ hk)) with z | ⟨k, k1, k2⟩
      · exact Or.inl z
      · exact Or.inr ⟨k, List.mem_cons_of_mem _ k1, k2⟩
theorem nbits (N : Snd_ S) {n x : Nat} (hx : x ∈ kids S n) (hn : ¬ tG S n 0 = 123) : ¬ tG S x 0 = 112 := by
  intro q
  obtain ⟨x1, x2⟩ := kids_mem.mp hx
  obtain ⟨p, p1, p2⟩ := (N.1 x x1).1.1 q
  have : p = n := by omega
  rw [this] at p2; exact hn p2
theorem i_pass (T : TW S) (N : Snd_ S) (LA : LvA S) (hs : SOk (ω := ω) sp) (hu : UOk S U) : ∀ f, RecI S U sp f
  | 0 => fun D n s hD hn hc A al => by
    have := chn_le 5 D n (LA n hn) hc; omega
  | f + 1 => fun D n s hD hn hc A al => by
    have R := i_pass T N LA hs hu f
    obtain ⟨gk, -, g3⟩ := (T.2.2.1 n hn).1
    unfold psF
    by_cases q : tG S n 0 = 123
    · rw [if_pos q]
      have z112 : ¬ tG S n 0 = 112 := fun z => by rw [q] at z; exact absurd z (by decide)
      obtain ⟨i1, i2⟩ := i_flds T hs (by omega) hn q hc R (kids S n) [] s 0 rfl A (fun m h => (by cases h))
      refine ⟨i1, fun z => ?_⟩
      obtain ⟨a1, a2, a3, a4⟩ := i2 z
      refine ⟨a1, fun y => ?_, fun _ => a3, a4, fun y => by rw [q] at y; cases y⟩
      have y := y.resolve_left z112
      rw [me_eq T.1 hn] at y
      unfold locN at y
      rw [if_pos q] at y
      exact a2 y rfl
    rw [if_neg q]
    by_cases p : dp (tG S n 0) = true
    · rw [if_pos p]
      have z112 : ¬ tG S n 0 = 112 := fun z => by rw [z] at p; cases p
      have zsz : ¬ sz (tG S n 0) = true := fun z => by
        unfold sz at z; unfold dp at p
        simp only [Bool.or_eq_true, decide_eq_true_iff] at z p
        rcases z with ((z | z) | z) | z <;> rw [z] at p <;> revert p <;> decide
      have al := al z112
      cases em : mnt S n with
      | zero => exact absurd em ((N.1 n hn).2.2 p).1
      | succ m =>
      rw [if_neg (Nat.succ_ne_zero m), Nat.succ_sub_one]
      obtain ⟨bm, zm⟩ := mnt_bf T.1 hn em
      obtain ⟨v, ev, v1, v2⟩ := A m bm zm
      rw [ev, pDp]
      have B2 := (N.2 n hn).1
      rw [me_eq T.1 hn] at B2
      obtain ⟨c, rr, hk⟩ := kids_one T hn p
      have ck : c ∈ kids S n := by rw [hk]; simp
      have nb := nbits N ck q
      have lo2 : posN (loT S m) ≤ posN v := pos_mono v1
      have hi2 : posN v ≤ posN (hiT S m) := pos_mono v2
      have k2 : Fn S n s ((2 : Int32), s) := ⟨by show ¬ (2 : Int32) = 7; decide, fun z => absurd z (show ¬ (2 : Int32) = 0 by decide)⟩
      by_cases q42 : tG S n 0 = 42
      · rw [if_pos q42]
        by_cases v0 : v < 0
        · rw [if_pos v0]; exact k2
        rw [if_neg v0, hk]
        obtain ⟨i1, i2⟩ := i_ctd (by omega) hn hk nb q T hc R v.toInt.toNat s A al
        refine ⟨i1, fun z => ?_⟩
        obtain ⟨a1, a2, a3, a4⟩ := i2 z
        refine ⟨a1, fun y => ?_, fun _ => a3, a4, fun y => absurd y zsz⟩
        have y := y.resolve_left z112
        rw [me_eq T.1 hn] at y
        unfold locN at y
        rw [if_neg q, if_pos q42, hk, em, Nat.succ_sub_one] at y
        have y : 0 < posN (loT S m) * (me S c).1 := y
        have y1 := Nat.pos_of_mul_pos_right y
        have y2 := Nat.pos_of_mul_pos_left y
        refine a2 ?_ ?_ <;> unfold posN at * <;> omega
      rw [if_neg q42]
      by_cases q47 : tG S n 0 = 47
      · rw [if_pos q47]
        by_cases v0 : v < 0
        · rw [if_pos v0]; exact k2
        rw [if_neg v0]
        unfold locN at B2
        rw [if_neg q, if_neg q42, if_pos q47, em, Nat.succ_sub_one] at B2
        have B2 : posN (hiT S m) ≤ 1000 := B2
        have v3 : v.toInt.toNat ≤ 1000 := Nat.le_trans hi2 B2
        have v4 : ¬ 1000 < v := fun z => by
          rw [Int64.lt_iff_toInt_lt, show (1000 : Int64).toInt = 1000 from rfl] at z; omega
        rw [if_neg v4, hk]
        obtain ⟨i1, i2⟩ := i_szd (e := bfN s.1 + v.toInt.toNat) (by omega) hn hk nb q T hc ((N.2 n hn).2.2 q47 c rr hk) R 1000 s A al (by omega)
        refine ⟨i1, fun z => ?_⟩
        obtain ⟨a1, a2, a3, a4⟩ := i2 z
        refine ⟨a1, fun y => ?_, fun _ => a3, a4, fun y => absurd y zsz⟩
        have y := y.resolve_left z112
        rw [me_eq T.1 hn] at y
        unfold locN at y
        rw [if_neg q, if_neg q42, if_pos q47, em, Nat.succ_sub_one] at y
        have y : 0 < posN (loT S m) := y
        have y1 : 0 < v.toInt.toNat := Nat.lt_of_lt_of_le y lo2
        by_cases w : s.1 < (pSd (psF S U sp f) (hd0 (c :: rr)) (bfN s.1 + v.toInt.toNat) 1000 s).2.1
        · exact w
        · have w2 : (pSd (psF S U sp f) (hd0 (c :: rr)) (bfN s.1 + v.toInt.toNat) 1000 s).2.1 = s.1 := by
            have : s.1 ≤ (pSd (psF S U sp f) (hd0 (c :: rr)) (bfN s.1 + v.toInt.toNat) 1000 s).2.1 := a1
            omega
          have a2 : bfN (pSd (psF S U sp f) (hd0 (c :: rr)) (bfN s.1 + v.toInt.toNat) 1000 s).2.1 = _ := a2
          rw [w2] at a2; omega
      rw [if_neg q47]
      have q63 : tG S n 0 = 63 := by
        unfold dp at p
        simp only [Bool.or_eq_true, decide_eq_true_eq] at p
        rcases p with (p | p) | p
        · exact absurd p q42
        · exact absurd p q47
        · exact p
      rcases i_chs (f := f) (v := v) (s := s) (U := U) (sp := sp) (P := fun k o => k ∈ kids S n ∧ Fn S k s o) (kids S n) (fun k hk => ⟨hk, R (D + 1) k s (by omega) (kids_mem.mp hk).1 (chn_kid hk hc) (fun x hx hz => by
        rcases (bf_kid T.1 hk).mp hx with ⟨z, -⟩ | z
        · exact absurd z q
        · exact A x z hz) (fun _ => al)⟩) with z | ⟨k, -, k1, k2, k3⟩
      · rw [z]; exact k2
      · refine ⟨k2, fun z => ?_⟩
        obtain ⟨a1, a2, a3, a4, -⟩ := k3 z
        refine ⟨a1, fun y => a2 (Or.inr ?_), fun _ => a3 (nbits N k1 q), a4, fun y => absurd y zsz⟩
        have y := y.resolve_left z112
        rw [me_eq T.1 hn] at y
        unfold locN at y
        rw [if_neg q, if_neg q42, if_neg q47, if_pos q63] at y
        exact Nat.lt_of_lt_of_le y ((chC_min _ _).2 k k1)
    · rw [if_neg p]
      have u : sz (tG S n 0) = true ∨ sm (tG S n 0) = true := by
        rcases gk with g | g | g | g
        · exact Or.inl g
        · exact Or.inr g
        · exact absurd g q
        · exact absurd g p
      obtain ⟨u1, u2⟩ := hu n s.1 s.2.1 hn u
      refine ⟨u1, fun z => ?_⟩
      obtain ⟨a1, a2, a3, a4⟩ := u2 z
      have rg : ∀ m, m = n → sz (tG S n 0) = true → Rg S (pU S U n s).2 m := fun m e z => by
        subst e
        exact ⟨(U m s.1 s.2.1).2.2.2, if_pos ⟨rfl, z⟩, a4 z⟩
      refine ⟨a1, a2, fun y => a3 y (al y), fun m h => ?_, fun y => rg n rfl y⟩
      by_cases e : m = n ∧ sz (tG S n 0) = true
      · exact rg m e.1 e.2
      · obtain ⟨v, h1, h2⟩ := h
        exact ⟨v, (if_neg e).trans h1, h2⟩
end INVP
