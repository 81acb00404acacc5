/-! soundness and measures, without a heap -/
def jv (n : Nat) : Int64 := Int64.ofNat n
theorem jv_toInt {n : Nat} (h : n < 2 ^ 63) : (jv n).toInt = n := Int64.toInt_ofNat_of_lt h
theorem jv_add (a b : Nat) : jv a + jv b = jv (a + b) := (Int64.ofNat_add a b).symm
theorem jv_mul (a b : Nat) : jv a * jv b = jv (a * b) := (Int64.ofNat_mul a b).symm
theorem jv_lt {a b : Nat} (ha : a < 2 ^ 63) (hb : b < 2 ^ 63) : jv a < jv b ↔ a < b := by
  rw [Int64.lt_iff_toInt_lt, jv_toInt ha, jv_toInt hb]; omega
theorem jv_inj {a b : Nat} (ha : a < 2 ^ 63) (hb : b < 2 ^ 63) : jv a = jv b ↔ a = b := by
  rw [← Int64.toInt_inj, jv_toInt ha, jv_toInt hb]; omega
theorem iv_jv {n : Nat} (h : n < 2 ^ 31) : (iv n).toInt64 = jv n := by
  rw [← Int64.toInt_inj, Int32.toInt_toInt64, iv_toInt h, jv_toInt (by omega)]
def posN (x : Int64) : Nat := x.toInt.toNat
theorem pos_c (x : Int64) : (if 0 < x then x else 0) = jv (posN x) := by
  have := x.toInt_lt
  unfold posN
  by_cases c : 0 < x
  · rw [if_pos c]
    rw [Int64.lt_iff_toInt_lt, Int64.toInt_zero] at c
    rw [← Int64.toInt_inj, jv_toInt (by omega)]; omega
  · rw [if_neg c]
    rw [Int64.lt_iff_toInt_lt, Int64.toInt_zero] at c
    rw [show x.toInt.toNat = 0 by omega]; rfl
theorem pos_m (x : Int64) : (if x < 0 then 0 else x) = jv (posN x) := by
  rw [← pos_c]
  by_cases c : x < 0
  · rw [if_pos c, if_neg (fun q => by rw [Int64.lt_iff_toInt_lt] at c q; omega)]
  · rw [if_neg c]
    by_cases d : 0 < x
    · rw [if_pos d]
    · rw [if_neg d, ← Int64.toInt_inj]
      rw [Int64.lt_iff_toInt_lt] at c d
      omega
/-- the latest field of that name in a row that is told backwards: 0 or it + 1 -/
def lkB (S : Tb) (key : Int32) : List Nat → Nat
  | [] => 0
  | k :: r => if tG S k 7 = key ∧ sz (tG S k 0) = true then k + 1 else lkB S key r
def befs (S : Tb) (p x : Nat) : List Nat := ((kids S p).filter fun k => decide (k < x)).reverse
def mntF (S : Tb) (key : Int32) : Nat → Nat → Nat
  | 0, _ => 0
  | f + 1, x => match S.2.2 x with
    | 0 => 0
    | p + 1 => if tG S p 0 = 123 ∧ ¬ lkB S key (befs S p x) = 0 then lkB S key (befs S p x) else mntF S key f p
/-- what node n's name means: 0, or the field + 1 -/
def mnt (S : Tb) (n : Nat) : Nat := mntF S (tG S n 4) (n + 1) n
def GoodC (S : Tb) (n f : Nat) : Prop := (∀ x, x ∈ kids S n → ¬ (tG S x 6).toInt64 < loT S f ∧ ¬ hiT S f < (tG S x 6).toInt64) ∧ (kids S n).Pairwise fun x y => ¬ tG S x 6 = tG S y 6
def InPl (S : Tb) (n : Nat) : Prop := (tG S n 0 = 112 → ∃ q, S.2.2 n = q + 1 ∧ tG S q 0 = 123) ∧ (tG S n 0 = 114 → ∀ q, S.2.2 n = q + 1 → tG S q 0 = 123 ∧ S.2.2 q = 0 ∧ ∀ k, k ∈ kids S q → k ≤ n)
def AOk (S : Tb) (n : Nat) : Prop := InPl S n ∧ ¬ hiT S n < loT S n ∧ (dp (tG S n 0) = true → ¬ mnt S n = 0 ∧ (tG S n 0 = 63 → GoodC S n (mnt S n - 1)))
def bfN (bits : Nat) : Nat := (bits + 7) / 8
def dgN (S : Tb) (k : Nat) : Nat := (tG S k 1).toInt.toNat
def sumC (S : Tb) (g : Nat → Nat × Nat) : List Nat → Nat → Nat × Nat
  | [], bits => (bfN bits, bfN bits)
  | k :: r, bits => if tG S k 0 = 112 then sumC S g r (bits + dgN S k) else (bfN bits + (g k).1 + (sumC S g r 0).1, bfN bits + (g k).2 + (sumC S g r 0).2)
def chC (g : Nat → Nat × Nat) : List Nat → Nat × Nat → Nat × Nat
  | [], a => a
  | k :: r, a => chC g r (min (g k).1 a.1, max a.2 (g k).2)
def locN (S : Tb) (g : Nat → Nat × Nat) (n : Nat) : Nat × Nat :=
  if tG S n 0 = 123 then sumC S g (kids S n) 0
  else if tG S n 0 = 42 then (match kids S n with | [] => (0, 0) | c :: _ => (posN (loT S (mnt S n - 1)) * (g c).1, posN (hiT S (mnt S n - 1)) * (g c).2))
  else if tG S n 0 = 47 then (posN (loT S (mnt S n - 1)), posN (hiT S (mnt S n - 1)))
  else if tG S n 0 = 63 then chC g (kids S n) (1000, 0)
  else if tG S n 0 = 114 then (0, 120) else if tG S n 0 = 122 then (1, 21) else if tG S n 0 = 102 then (4, 4) else if tG S n 0 = 100 then (8, 8)
  else if tG S n 0 = 112 then (1, 1) else (dgN S n, dgN S n)
def meaF (S : Tb) : Nat → Nat → Nat × Nat
  | 0, _ => (0, 0)
  | f + 1, n => locN S (meaF S f) n
/-- least and most of node n -/
def me (S : Tb) (n : Nat) : Nat × Nat := meaF S S.1 n
def FitN (S : Tb) (n : Nat) : Prop := (tG S n 0 = 42 → ∀ c r, kids S n = c :: r → 0 < (me S c).2) ∧ (tG S n 0 = 47 → ∀ c r, kids S n = c :: r → 0 < (me S c).1)
def BOk (S : Tb) (n : Nat) : Prop := (me S n).2 ≤ 1000 ∧ FitN S n
def Snd_ (S : Tb) : Prop := (∀ n, n < S.1 → AOk S n) ∧ (∀ n, n < S.1 → BOk S n)
theorem sumC_congr {S : Tb} {g g' : Nat → Nat × Nat} : ∀ {l : List Nat} {bits : Nat}, (∀ k, k ∈ l → g k = g' k) → sumC S g l bits = sumC S g' l bits
  | [], _, _ => rfl
  | k :: r, bits, h => by
    unfold sumC
    rw [h k (List.mem_cons_self ..), sumC_congr fun x hx => h x (List.mem_cons_of_mem _ hx), sumC_congr fun x hx => h x (List.mem_cons_of_mem _ hx)]
theorem chC_congr {g g' : Nat → Nat × Nat} : ∀ {l : List Nat} {a : Nat × Nat}, (∀ k, k ∈ l → g k = g' k) → chC g l a = chC g' l a
  | [], _, _ => rfl
  | k :: r, a, h => by
    unfold chC
    rw [h k (List.mem_cons_self ..), chC_congr fun x hx => h x (List.mem_cons_of_mem _ hx)]
theorem locN_congr {S : Tb} {g g' : Nat → Nat × Nat} {n : Nat} (h : ∀ k, k ∈ kids S n → g k = g' k) : locN S g n = locN S g' n := by
  unfold locN
  rw [sumC_congr h, chC_congr h]
  cases e : kids S n with
  | nil => rfl
  | cons c r =>
    dsimp only
    rw [h c (by rw [e]; exact List.mem_cons_self ..)]
theorem kids_gt {S : Tb} (W : WfP S) {n k : Nat} (h : k ∈ kids S n) : n < k ∧ k < S.1 := by
  obtain ⟨a, b⟩ := kids_mem.mp h
  have := W k a
  exact ⟨by omega, a⟩
theorem meaF_st {S : Tb} (W : WfP S) : ∀ f n, n < S.1 → S.1 ≤ n + f → meaF S f n = meaF S (f + 1) n
  | 0, n, h1, h2 => by omega
  | f + 1, n, h1, h2 => by
    show locN S (meaF S f) n = locN S (meaF S (f + 1)) n
    refine locN_congr fun k hk => ?_
    obtain ⟨a, b⟩ := kids_gt W hk
    exact meaF_st W f k b (by omega)
theorem me_eq {S : Tb} (W : WfP S) {n : Nat} (hn : n < S.1) : me S n = locN S (me S) n := by
  unfold me
  rw [meaF_st W S.1 n hn (by omega)]
  rfl
/-! numbers' ends -/
def limOk (c w : Int32) : Bool := decide ((wLo c w).toInt ≤ 0) && decide ((-2147483648 : Int) ≤ (wLo c w).toInt) && decide ((0 : Int) ≤ (wHi c w).toInt) && decide ((wHi c w).toInt < 4294967296)
theorem lim_u : ∀ e, e < 5 → limOk 117 (iv (e + 0)) = true ∨ e = 0 := by decide +kernel
theorem lim_v : ∀ e, e < 5 → limOk 118 (iv (e + 0)) = true ∨ e = 0 := by decide +kernel
theorem lim_s : ∀ e, e < 5 → limOk 115 (iv (e + 0)) = true ∨ e = 0 := by decide +kernel
theorem lim_p : ∀ e, e < 8 → limOk 112 (iv (e + 0)) = true ∨ e = 0 := by decide +kernel
theorem wlim {c : Int32} {e : Nat} (hz : sz c = true) (h1 : 1 ≤ e) (h2 : e ≤ if c = 112 then 7 else 4) : (wLo c (iv e)).toInt ≤ 0 ∧ (-2147483648 : Int) ≤ (wLo c (iv e)).toInt ∧ (0 : Int) ≤ (wHi c (iv e)).toInt ∧ (wHi c (iv e)).toInt < 4294967296 := by
  have key : limOk c (iv e) = true := by
    unfold sz at hz
    simp only [Bool.or_eq_true, decide_eq_true_iff] at hz
    rcases hz with ((rfl | rfl) | rfl) | rfl
    · rw [if_neg (by decide)] at h2; exact (lim_u e (by omega)).resolve_right (by omega)
    · rw [if_neg (by decide)] at h2; exact (lim_v e (by omega)).resolve_right (by omega)
    · rw [if_neg (by decide)] at h2; exact (lim_s e (by omega)).resolve_right (by omega)
    · rw [if_pos rfl] at h2; exact (lim_p e (by omega)).resolve_right (by omega)
  unfold limOk at key
  simp only [Bool.and_eq_true, decide_eq_true_iff] at key
  exact ⟨key.1.1.1, key.1.1.2, key.1.2, key.2⟩
theorem ends_le {S : Tb} {k : Nat} (G : GdK S k) (hz : sz (tG S k 0) = true) : (-2147483648 : Int) ≤ (loT S k).toInt ∧ (loT S k).toInt < 4294967296 ∧ (-2147483648 : Int) ≤ (hiT S k).toInt ∧ (hiT S k).toInt < 4294967296 := by
  obtain ⟨⟨e, e1, e2, e3⟩, hl⟩ := G.2.1 hz
  have n1 : ¬ tG S k 0 = 102 := fun q => by rw [q] at hz; cases hz
  have n2 : ¬ tG S k 0 = 100 := fun q => by rw [q] at hz; cases hz
  unfold loT hiT
  rw [if_neg n1, if_neg n2, if_pos hz, if_neg n1, if_neg n2, if_pos hz, e3]
  obtain ⟨w1, w2, w3, w4⟩ := wlim hz e1 e2
  rcases hl with hl | ⟨hl, v, v1, v2⟩
  · rw [if_pos hl, if_pos hl]; omega
  · have n0 : ¬ tG S k 2 = 0 := fun q => by rw [q] at hl; revert hl; decide
    rw [if_neg n0, if_neg n0, v2]
    have p1 : (iv v + 1).toInt64 = jv (v + 1) := by rw [iv1, iv_add, iv_jv (by omega)]
    have p0 : (iv v).toInt64 = jv v := iv_jv (by omega)
    have m1 : (iv v - 1).toInt64.toInt = (v : Int) - 1 := by
      rw [Int32.toInt_toInt64]
      by_cases z : v = 0
      · subst z; rfl
      · rw [iv1, iv_sub (by omega), iv_toInt (by omega)]; omega
    have t1 := jv_toInt (n := v + 1) (by omega)
    have t0 := jv_toInt (n := v) (by omega)
    unfold liLo liHi
    rw [p1, p0]
    rcases hl with q | q | q <;> rw [q] <;> simp only [show ¬ (62 : Int32) = 60 by decide, show ¬ (61 : Int32) = 60 by decide, show ¬ (61 : Int32) = 62 by decide, show ¬ (60 : Int32) = 62 by decide, if_true, if_false] <;> refine ⟨?_, ?_, ?_, ?_⟩ <;> (try split) <;> omega
theorem pos_le {S : Tb} {k : Nat} (G : GdK S k) (hz : sz (tG S k 0) = true) : posN (loT S k) < 4294967296 ∧ posN (hiT S k) < 4294967296 := by
  obtain ⟨a, b, c, d⟩ := ends_le G hz
  unfold posN
  exact ⟨by omega, by omega⟩
theorem pos_mono {x y : Int64} (h : ¬ y < x) : posN x ≤ posN y := by
  rw [Int64.lt_iff_toInt_lt] at h
  unfold posN; omega
/-! what a name means is a number before it -/
theorem lkB_mem {S : Tb} {key : Int32} : ∀ {l : List Nat} {k : Nat}, lkB S key l = k + 1 → k ∈ l ∧ sz (tG S k 0) = true
  | [], k, h => by cases h
  | x :: r, k, h => by
    unfold lkB at h
    split at h
    · rename_i c
      have : x = k := by omega
      rw [← this]; exact ⟨List.mem_cons_self .., c.2⟩
    · obtain ⟨a, b⟩ := lkB_mem h
      exact ⟨List.mem_cons_of_mem _ a, b⟩
theorem mntF_sz {S : Tb} (W : WfP S) {key : Int32} : ∀ f x k, x < S.1 → mntF S key f x = k + 1 → k < x ∧ sz (tG S k 0) = true
  | 0, x, k, hx, h => by cases h
  | f + 1, x, k, hx, h => by
    unfold mntF at h
    split at h
    · cases h
    · rename_i p e
      have px := W x hx
      split at h
      · obtain ⟨a, b⟩ := lkB_mem h
        unfold befs at a
        rw [List.mem_reverse, List.mem_filter, decide_eq_true_iff] at a
        exact ⟨a.2, b⟩
      · obtain ⟨a, b⟩ := mntF_sz W f p k (by omega) h
        exact ⟨by omega, b⟩
theorem mnt_sz {S : Tb} (W : WfP S) {n : Nat} (hn : n < S.1) (h : ¬ mnt S n = 0) : mnt S n - 1 < n ∧ sz (tG S (mnt S n - 1) 0) = true :=
  mntF_sz W (n + 1) n (mnt S n - 1) hn (show mnt S n = mnt S n - 1 + 1 by omega)
/-! sizes -/
theorem sumC_le {S : Tb} {g : Nat → Nat × Nat} : ∀ {l : List Nat} {bits : Nat}, (∀ k, k ∈ l → (g k).1 ≤ (g k).2 ∧ (g k).2 ≤ 1000 ∧ (tG S k 0 = 112 → dgN S k ≤ 7)) → (sumC S g l bits).1 ≤ (sumC S g l bits).2 ∧ (sumC S g l bits).2 ≤ bits + 1 + 2000 * l.length
  | [], bits, _ => ⟨Nat.le_refl _, by show bfN bits ≤ _; unfold bfN; omega⟩
  | k :: r, bits, h => by
    have hk := h k (List.mem_cons_self ..)
    have hr : ∀ x, x ∈ r → _ := fun x hx => h x (List.mem_cons_of_mem _ hx)
    unfold sumC
    rw [List.length_cons]
    by_cases c : tG S k 0 = 112
    · rw [if_pos c]
      have q := sumC_le (bits := bits + dgN S k) hr
      have := hk.2.2 c
      exact ⟨q.1, by omega⟩
    · rw [if_neg c]
      have q := sumC_le (bits := 0) hr
      unfold bfN
      exact ⟨by dsimp only; omega, by dsimp only; omega⟩
theorem chC_le {g : Nat → Nat × Nat} : ∀ {l : List Nat} {a : Nat × Nat}, (∀ k, k ∈ l → (g k).1 ≤ (g k).2 ∧ (g k).2 ≤ 1000) → a.2 ≤ 1000 → (¬ l = [] ∨ a.1 ≤ a.2) → (chC g l a).1 ≤ (chC g l a).2 ∧ (chC g l a).2 ≤ 1000
  | [], a, _, h2, h3 => ⟨h3.resolve_left fun q => q rfl, h2⟩
  | k :: r, a, h, h2, _ => by
    have hk := h k (List.mem_cons_self ..)
    unfold chC
    exact chC_le (fun x hx => h x (List.mem_cons_of_mem _ hx)) (by show max a.2 (g k).2 ≤ 1000; omega) (Or.inr (by show min (g k).1 a.1 ≤ max a.2 (g k).2; omega))
theorem kids_len {S : Tb} (h : S.1 ≤ 90) (n : Nat) : (kids S n).length ≤ 90 := by
  unfold kids
  have := List.length_filter_le (fun k => decide (S.2.2 k = n + 1)) (List.range S.1)
  rw [List.length_range] at this; omega
theorem dg_num' {S : Tb} {k : Nat} (G : GdK S k) (hz : sz (tG S k 0) = true) : tG S k 1 = iv (dgN S k) ∧ 1 ≤ dgN S k ∧ dgN S k ≤ 7 ∧ (¬ tG S k 0 = 112 → dgN S k ≤ 4) := by
  obtain ⟨⟨e, e1, e2, e3⟩, -⟩ := G.2.1 hz
  have : e ≤ 7 := by split at e2 <;> omega
  unfold dgN
  rw [e3, iv_toInt (by omega)]
  refine ⟨rfl, by omega, by omega, fun q => ?_⟩
  rw [if_neg q] at e2; omega
theorem me_le {S : Tb} (T : TW S) (A : ∀ n, n < S.1 → AOk S n) {n : Nat} (hn : n < S.1) (h : ∀ k, k ∈ kids S n → (me S k).1 ≤ (me S k).2 ∧ (me S k).2 ≤ 1000) : (me S n).1 ≤ (me S n).2 ∧ (me S n).2 < 2 ^ 50 := by
  obtain ⟨W, ⟨u1, u2⟩, G, -, -⟩ := T
  rw [me_eq W hn]
  have Gk := (G n hn).1
  unfold locN
  by_cases c1 : tG S n 0 = 123
  · rw [if_pos c1]
    have q := sumC_le (S := S) (g := me S) (l := kids S n) (bits := 0) fun k hk => ⟨(h k hk).1, (h k hk).2, fun z => (dg_num' (G k (kids_gt W hk).2).1 (by rw [z]; rfl)).2.2.1⟩
    have := kids_len u2 n
    exact ⟨q.1, by omega⟩
  rw [if_neg c1]
  have fld : dp (tG S n 0) = true → posN (loT S (mnt S n - 1)) ≤ posN (hiT S (mnt S n - 1)) ∧ posN (hiT S (mnt S n - 1)) < 4294967296 := by
    intro hd
    obtain ⟨m1, -⟩ := (A n hn).2.2 hd
    obtain ⟨f1, f2⟩ := mnt_sz W hn m1
    exact ⟨pos_mono (A _ (by omega)).2.1, (pos_le (G _ (by omega)).1 f2).2⟩
  by_cases c2 : tG S n 0 = 42
  · rw [if_pos c2]
    obtain ⟨f1, f2⟩ := fld (by rw [c2]; rfl)
    cases e : kids S n with
    | nil => exact ⟨Nat.le_refl _, (show (0 : Nat) < 2 ^ 50 by decide)⟩
    | cons c r =>
      obtain ⟨a, b⟩ := h c (by rw [e]; exact List.mem_cons_self ..)
      dsimp only
      refine ⟨Nat.mul_le_mul f1 a, ?_⟩
      have : posN (hiT S (mnt S n - 1)) * (me S c).2 ≤ 4294967296 * 1000 := Nat.mul_le_mul (by omega) b
      omega
  rw [if_neg c2]
  by_cases c3 : tG S n 0 = 47
  · rw [if_pos c3]
    obtain ⟨f1, f2⟩ := fld (by rw [c3]; rfl)
    exact ⟨f1, by dsimp only; omega⟩
  rw [if_neg c3]
  by_cases c4 : tG S n 0 = 63
  · rw [if_pos c4]
    have ne : ¬ kids S n = [] := by
      obtain ⟨x, x1, x2⟩ := Gk.2.2 (by rw [c4]; rfl)
      intro q
      have : x ∈ kids S n := kids_mem.mpr ⟨x1, x2⟩
      rw [q] at this; exact nomatch this
    have q := chC_le (g := me S) (l := kids S n) (a := (1000, 0)) h (by decide) (Or.inl ne)
    exact ⟨q.1, by omega⟩
  rw [if_neg c4]
  by_cases c5 : tG S n 0 = 114
  · rw [if_pos c5]; decide
  rw [if_neg c5]
  by_cases c6 : tG S n 0 = 122
  · rw [if_pos c6]; decide
  rw [if_neg c6]
  by_cases c7 : tG S n 0 = 102
  · rw [if_pos c7]; decide
  rw [if_neg c7]
  by_cases c8 : tG S n 0 = 100
  · rw [if_pos c8]; decide
  rw [if_neg c8]
  by_cases c9 : tG S n 0 = 112
  · rw [if_pos c9]; decide
  rw [if_neg c9]
  refine ⟨Nat.le_refl _, ?_⟩
  rcases Gk.1 with g | g | g | g
  · have := (dg_num' Gk g).2.2.1
    dsimp only; omega
  · unfold sm at g
    simp only [Bool.or_eq_true, decide_eq_true_iff] at g
    rcases g with ((g | g) | g) | g <;> exact absurd g (by assumption)
  · exact absurd g c1
  · unfold dp at g
    simp only [Bool.or_eq_true, decide_eq_true_iff] at g
    rcases g with (g | g) | g <;> exact absurd g (by assumption)
