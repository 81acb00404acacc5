/-! the class measures a table -/
theorem bf_num : ∀ n, n < 1000 → (iv n + 7) / 8 = iv (bfN n) := by decide +kernel
theorem bf_64 {n : Nat} (h : n < 1000) : ((iv n + 7) / 8).toInt64 = jv (bfN n) := by
  rw [bf_num n h]; exact iv_jv (by unfold bfN; omega)
def MsC (h : Hp) (b : Nat) (S : Tb) (k : Nat) : Prop := tG S k 0 = 112 ∨ (hL h (b + 2 + k) 13 = jv (me S k).1 ∧ hL h (b + 2 + k) 14 = jv (me S k).2)
/-- node n's measures alone -/
def NFr (b n : Nat) (h h' : Hp) : Prop := (hI h' = hI h ∧ hR h' = hR h ∧ hS h' = hS h ∧ hN h' = hN h ∧ hU h' = hU h ∧ hD h' = hD h) ∧ (∀ c j, ¬ (c = b + 2 + n ∧ (j = 13 ∨ j = 14)) → hL h' c j = hL h c j)
theorem NFr.sfr {b n : Nat} {h h' : Hp} (x : NFr b n h h') (hn : n < 90) : SFr b h h' := ⟨⟨x.1.1, x.1.2.2.1, x.1.2.2.2.1, x.1.2.2.2.2.1, x.1.2.2.2.2.2⟩, fun c j _ => by rw [x.1.2.1], fun c j q => x.2 c j (fun z => q ⟨by omega, by omega, z.2⟩)⟩
theorem NFr.two {b n : Nat} {h : Hp} {v w : Int64} : NFr b n h (sL (sL h (b + 2 + n) 13 v) (b + 2 + n) 14 w) := ⟨⟨rfl, rfl, rfl, rfl, rfl, rfl⟩, fun c j q => by rw [hL_o (fun z => q ⟨z.1, Or.inr z.2⟩), hL_o (fun z => q ⟨z.1, Or.inl z.2⟩)]⟩
theorem sL_sL (h : Hp) (a j : Nat) (v v' : Int64) : sL (sL h a j v) a j v' = sL h a j v' := by
  unfold sL up2
  congr 2
  funext b k
  by_cases c : b = a ∧ k = j
  · rw [if_pos c, if_pos c]
  · rw [if_neg c, if_neg c]
    show (if b = a ∧ k = j then v else h.2.1 b k) = _
    rw [if_neg c]
theorem sL_cm (h : Hp) (a : Nat) {j k : Nat} (hjk : ¬ j = k) {v w : Int64} : sL (sL h a j v) a k w = sL (sL h a k w) a j v := by
  unfold sL up2
  congr 2
  funext b q
  dsimp only
  by_cases z1 : b = a ∧ q = k
  · have z2 : ¬ (b = a ∧ q = j) := fun z => hjk (z.2.symm.trans z1.2)
    rw [if_pos z1, if_neg z2, if_pos z1]
  · rw [if_neg z1]
    by_cases z2 : b = a ∧ q = j
    · rw [if_pos z2, if_pos z2]
    · rw [if_neg z2, if_neg z2, if_neg z1]
section MEA
variable {d b n : Nat} {h : Hp} {S : Tb}
/-- what is known of a node's parts when it is measured -/
def KidM (h : Hp) (b : Nat) (S : Tb) (n : Nat) : Prop := ∀ k, k ∈ kids S n → MsC h b S k ∧ (me S k).1 ≤ (me S k).2 ∧ (me S k).2 ≤ 1000
theorem wd_dg (F : Fcx h b S) {k : Nat} (hk : k < S.1) (hz : sz (tG S k 0) = true) : hI h (b + 2 + k) 1 = iv (dgN S k) := by
  rw [(F.1.2.2.1 k hk).1]
  unfold wdT
  rw [if_neg (fun q => by rw [q] at hz; cases hz), if_neg (fun q => by rw [q] at hz; cases hz), if_pos hz]
  exact (dg_num' (F.2.2.2.2.2.1 k hk).1 hz).1
theorem c_str_13 {K : Hp → Prop} (F : Fcx h b S) (hn : n < S.1) (KM : KidM h b S n) : ∀ (l : List Nat) (pr a c bits : Nat), LkC h b pr l → (∀ k, k ∈ l → k ∈ kids S n) → bits + 7 * l.length < 900 →
    K (sL (sL h (b + 2 + n) 13 (jv (a + (sumC S (me S) l bits).1))) (b + 2 + n) 14 (jv (c + (sumC S (me S) l bits).2))) →
    Wp (d + 1) m_Fo_measureStructure 13 [some (.ref (b + 2 + n)), some (.long (jv a)), none, some (.long (jv c)), none, some (.int (iv bits)), some (.ref (hdR b l))] [] h (QV K)
  | [], pr, a, c, bits, L, hl, hb, k => by
    refine w_Fo_measureStructure_13 ?_
    rw [if_pos (show hdR b [] = 0 from rfl)]
    have hb : bits < 900 := by simpa using hb
    refine w_Fo_bytesFor ⟨F.s2 hn, ?_⟩
    rintro _ rfl
    refine w_Fo_bytesFor ⟨F.s2 hn, ?_⟩
    rintro _ rfl
    rw [bf_64 (by omega), jv_add, jv_add]
    exact k
  | x :: l, pr, a, c, bits, L, hl, hb, k => by
    have xk := hl x (List.mem_cons_self ..)
    obtain ⟨x1, x2⟩ := kids_mem.mp xk
    rw [List.length_cons] at hb
    refine w_Fo_measureStructure_13 ?_
    rw [show hdR b (x :: l) = b + 2 + x from rfl, if_neg (by omega), (F.1.2.1 x x1).1]
    refine ⟨F.s2 x1, ?_⟩
    unfold sumC at k
    by_cases e : tG S x 0 = 112
    · rw [if_pos e]
      rw [if_pos e] at k
      have hz : sz (tG S x 0) = true := by rw [e]; rfl
      have dg7 := (dg_num' (F.2.2.2.2.2.1 x x1).1 hz).2.2.1
      rintro _ rfl _ rfl
      rw [wd_dg F x1 hz, iv_add, L.2.1]
      exact c_str_13 F hn KM l _ a c (bits + dgN S x) L.2.2 (fun y hy => hl y (List.mem_cons_of_mem _ hy)) (by omega) k
    · rw [if_neg e]
      rw [if_neg e] at k
      obtain ⟨m1, m2⟩ := (KM x xk).1.resolve_left e
      refine w_Fo_bytesFor ⟨F.s2 x1, ?_⟩
      rintro _ rfl
      refine w_Fo_bytesFor ⟨F.s2 x1, ?_⟩
      rintro _ rfl _ rfl
      rw [bf_64 (by omega), m1, m2, jv_add, jv_add, jv_add, jv_add, L.2.1]
      refine c_str_13 F hn KM l _ (a + (bfN bits + (me S x).1)) (c + (bfN bits + (me S x).2)) 0 L.2.2 (fun y hy => hl y (List.mem_cons_of_mem _ hy)) (by omega) ?_
      rw [Nat.add_assoc a, Nat.add_assoc c]
      exact k
theorem min_jv {x y : Nat} (hx : x < 2 ^ 63) (hy : y < 2 ^ 63) : (if jv x < jv y then jv x else jv y) = jv (min x y) := by
  by_cases c : x < y
  · rw [if_pos ((jv_lt hx hy).mpr c)]; congr 1; omega
  · rw [if_neg (fun q => c ((jv_lt hx hy).mp q))]; congr 1; omega
theorem max_jv {x y : Nat} (hx : x < 2 ^ 63) (hy : y < 2 ^ 63) : (if jv y < jv x then jv x else jv y) = jv (max x y) := by
  by_cases c : y < x
  · rw [if_pos ((jv_lt hy hx).mpr c)]; congr 1; omega
  · rw [if_neg (fun q => c ((jv_lt hy hx).mp q))]; congr 1; omega
theorem c_cho_12 {K : Hp → Prop} (F : Fcx h b S) (hn : n < S.1) (KM : KidM h b S n) (nb : ∀ k, k ∈ kids S n → ¬ tG S k 0 = 112) : ∀ (l : List Nat) (pr : Nat) (a : Nat × Nat), LkC h b pr l → (∀ k, k ∈ l → k ∈ kids S n) → a.1 ≤ 1000 → a.2 ≤ 1000 →
    K (sL (sL h (b + 2 + n) 13 (jv (chC (me S) l a).1)) (b + 2 + n) 14 (jv (chC (me S) l a).2)) →
    Wp d m_Fo_measureChoice 12 [some (.ref (b + 2 + n)), some (.ref (hdR b l))] [] (sL (sL h (b + 2 + n) 13 (jv a.1)) (b + 2 + n) 14 (jv a.2)) (QV K)
  | [], pr, a, L, hl, h1, h2, k => by
    refine w_Fo_measureChoice_12 ?_
    rw [if_pos (show hdR b [] = 0 from rfl)]
    exact k
  | x :: l, pr, a, L, hl, h1, h2, k => by
    have xk := hl x (List.mem_cons_self ..)
    obtain ⟨x1, x2⟩ := kids_mem.mp xk
    have xn := (kids_gt F.2.2.2.1 xk).1
    obtain ⟨q, q1, q2⟩ := KM x xk
    obtain ⟨m1, m2⟩ := q.resolve_left (nb x xk)
    refine w_Fo_measureChoice_12 ?_
    rw [show hdR b (x :: l) = b + 2 + x from rfl, if_neg (by omega)]
    refine ⟨F.s2 hn, F.s2 x1, ?_⟩
    rintro _ rfl _ rfl _ rfl
    have e1 : hL (sL (sL h (b + 2 + n) 13 (jv a.1)) (b + 2 + n) 14 (jv a.2)) (b + 2 + x) 13 = jv (me S x).1 := by rw [hL_o (by omega), hL_o (by omega)]; exact m1
    have e2 : hL (sL (sL h (b + 2 + n) 13 (jv a.1)) (b + 2 + n) 14 (jv a.2)) (b + 2 + n) 13 = jv a.1 := by rw [hL_o (by omega)]; exact hL_s
    rw [e1, e2, min_jv (by omega) (by omega)]
    have e3 : ∀ v, hL (sL (sL (sL h (b + 2 + n) 13 (jv a.1)) (b + 2 + n) 14 (jv a.2)) (b + 2 + n) 13 v) (b + 2 + x) 14 = jv (me S x).2 := fun v => by rw [hL_o (by omega), hL_o (by omega), hL_o (by omega)]; exact m2
    have e4 : ∀ v, hL (sL (sL (sL h (b + 2 + n) 13 (jv a.1)) (b + 2 + n) 14 (jv a.2)) (b + 2 + n) 13 v) (b + 2 + n) 14 = jv a.2 := fun v => by rw [hL_o (by omega)]; exact hL_s
    rw [e3, e4, max_jv (by omega) (by omega)]
    have sw : ∀ v w : Int64, sL (sL (sL (sL h (b + 2 + n) 13 (jv a.1)) (b + 2 + n) 14 (jv a.2)) (b + 2 + n) 13 v) (b + 2 + n) 14 w = sL (sL h (b + 2 + n) 13 v) (b + 2 + n) 14 w := by
      intro v w
      rw [sL_cm (sL h (b + 2 + n) 13 (jv a.1)) (b + 2 + n) (by decide), sL_sL, sL_sL]
    rw [sw]
    show Wp d m_Fo_measureChoice 12 [some (.ref (b + 2 + n)), some (.ref (hR h (b + 2 + x) 8))] [] _ _
    rw [L.2.1]
    exact c_cho_12 F hn KM nb l _ (min (me S x).1 a.1, max a.2 (me S x).2) L.2.2 (fun y hy => hl y (List.mem_cons_of_mem _ hy)) (by show min _ _ ≤ _; omega) (by show max _ _ ≤ _; omega) k
theorem not_bits (F : Fcx h b S) (A : ∀ n, n < S.1 → AOk S n) {x : Nat} (hx : x ∈ kids S n) (hn : ¬ tG S n 0 = 123) : ¬ tG S x 0 = 112 := by
  intro q
  obtain ⟨x1, x2⟩ := kids_mem.mp hx
  obtain ⟨p, p1, p2⟩ := (A x x1).1.1 q
  have : p = n := by omega
  rw [this] at p2; exact hn p2
theorem c_measure {K : Hp → Prop} (F : Fcx h b S) (A : ∀ n, n < S.1 → AOk S n) (hn : n < S.1) (KM : KidM h b S n) (hm : dp (tG S n 0) = true → hR h (b + 2 + n) 5 = rfN b (mnt S n)) (h14 : hL h (b + 2 + n) 14 = 0)
    (k : ∀ h', NFr b n h h' → (¬ tG S n 0 = 112 → hL h' (b + 2 + n) 13 = jv (me S n).1 ∧ hL h' (b + 2 + n) 14 = jv (me S n).2) → (tG S n 0 = 112 → hL h' (b + 2 + n) 14 = jv (dgN S n)) → K h') : Ca (d + 2) m_Fo_measure [.ref (b + 2 + n)] h (QV K) := by
  have W := F.2.2.2.1
  have Gk := (F.2.2.2.2.2.1 n hn).1
  have R := F.1.2.2.2.1 n hn
  have u90 := F.1.1.2
  have two : ∀ v w, ¬ tG S n 0 = 112 → v = jv (me S n).1 → w = jv (me S n).2 → K (sL (sL h (b + 2 + n) 13 v) (b + 2 + n) 14 w) := by
    rintro v w nb rfl rfl
    exact k _ NFr.two (fun _ => ⟨by rw [hL_o (by omega)]; exact hL_s, hL_s⟩) fun q => absurd q nb
  have me' := me_eq W hn
  have arr : (tG S n 0 = 42 ∨ tG S n 0 = 47) → Ca (d + 1) m_Fo_measureArray [.ref (b + 2 + n)] h (QV fun h2 => K h2) := by
    intro c
    have hd : dp (tG S n 0) = true := by rcases c with c | c <;> rw [c] <;> rfl
    have nb : ¬ tG S n 0 = 112 := by rcases c with c | c <;> rw [c] <;> decide
    have n123 : ¬ tG S n 0 = 123 := by rcases c with c | c <;> rw [c] <;> decide
    have hk := A n hn
    have m0 := (hk.2.2 hd).1
    obtain ⟨f1, f2⟩ := mnt_sz W hn m0
    obtain ⟨x, x1, x2⟩ := Gk.2.2 hd
    have xk : x ∈ kids S n := kids_mem.mpr ⟨x1, x2⟩
    refine w_Fo_measureArray ⟨F.s2 hn, ?_⟩
    rintro _ rfl _ rfl
    have mf : rfN b (mnt S n) = b + 2 + (mnt S n - 1) := by
      cases e : mnt S n with
      | zero => exact absurd e m0
      | succ f => rfl
    obtain ⟨-, -, l1, l2⟩ := F.1.2.2.1 (mnt S n - 1) (by omega)
    cases e : kids S n with
    | nil => rw [e] at xk; exact nomatch xk
    | cons cc r =>
      have ck : cc ∈ kids S n := by rw [e]; exact List.mem_cons_self ..
      obtain ⟨q, q1, q2⟩ := KM cc ck
      obtain ⟨m1, m2⟩ := q.resolve_left (not_bits F A ck n123)
      have ccn := (kids_gt W ck).1
      have ccl := (kids_gt W ck).2
      rw [R.1, e, show hdR b (cc :: r) = b + 2 + cc from rfl, hm hd, mf, if_neg (by omega), if_neg (by omega), (F.1.2.1 n hn).1]
      refine ⟨F.s2 (by omega), ?_⟩
      unfold locN at me'
      rw [if_neg n123] at me'
      by_cases c47 : tG S n 0 = 47
      · rw [if_pos c47]
        rintro _ rfl
        rw [hI_sL, (F.1.2.1 n hn).1, if_pos c47]
        rintro _ rfl
        rw [hL_o (by omega), l1, l2, pos_c, pos_c, Int64.mul_one, Int64.mul_one]
        rw [if_neg (by rw [c47]; decide), if_pos c47] at me'
        exact two _ _ nb (by rw [me']) (by rw [me'])
      · have c42 : tG S n 0 = 42 := c.resolve_right c47
        rw [if_neg c47]
        refine ⟨F.s2 ccl, ?_⟩
        rintro _ rfl
        rw [hI_sL, (F.1.2.1 n hn).1, if_neg c47]
        rintro _ rfl
        rw [hL_o (by omega), hL_o (by omega), l1, l2, pos_c, pos_c, m1, m2, jv_mul, jv_mul]
        rw [if_pos c42, e] at me'
        exact two _ _ nb (by rw [me']) (by rw [me'])
  refine w_Fo_measure ⟨F.s2 hn, ?_⟩
  rw [(F.1.2.1 n hn).1]
  simp only [ti (k := 42) (z := 42) rfl, ti (k := 47) (z := 47) rfl, ti (k := 63) (z := 63) rfl, ti (k := 114) (z := 114) rfl, ti (k := 122) (z := 122) rfl, ti (k := 123) (z := 123) rfl]
  by_cases c1 : tG S n 0 = 42
  · rw [if_pos c1]; exact arr (Or.inl c1)
  rw [if_neg c1]
  by_cases c2 : tG S n 0 = 47
  · rw [if_pos c2]; exact arr (Or.inr c2)
  rw [if_neg c2]
  unfold locN at me'
  rw [if_neg c1, if_neg c2] at me'
  by_cases c3 : tG S n 0 = 63
  · rw [if_pos c3]
    have n123 : ¬ tG S n 0 = 123 := by rw [c3]; decide
    rw [if_neg n123, if_pos c3] at me'
    refine w_Fo_measureChoice ⟨F.s2 hn, ?_⟩
    rintro _ rfl _ rfl
    rw [hR_sL, R.1]
    have e0 : sL h (b + 2 + n) 13 1000 = sL (sL h (b + 2 + n) 13 (jv 1000)) (b + 2 + n) 14 (jv 0) := (sL_id (by rw [hL_o (by omega)]; exact h14)).symm
    rw [e0]
    refine c_cho_12 F hn KM (fun x hx => not_bits F A hx n123) (kids S n) 0 (1000, 0) R.2.2 (fun _ hx => hx) (Nat.le_refl _) (by decide) ?_
    exact two _ _ (by rw [c3]; decide) (by rw [me']) (by rw [me'])
  rw [if_neg c3]
  by_cases c4 : tG S n 0 = 114
  · rw [if_pos c4]
    rintro _ rfl _ rfl
    rw [if_neg (by rw [c4]; decide), if_neg c3, if_pos c4] at me'
    exact two _ _ (by rw [c4]; decide) (by rw [me']; rfl) (by rw [me']; rfl)
  rw [if_neg c4]
  by_cases c5 : tG S n 0 = 122
  · rw [if_pos c5]
    rintro _ rfl _ rfl
    rw [if_neg (by rw [c5]; decide), if_neg c3, if_neg c4, if_pos c5] at me'
    exact two _ _ (by rw [c5]; decide) (by rw [me']; rfl) (by rw [me']; rfl)
  rw [if_neg c5]
  by_cases c6 : tG S n 0 = 123
  · rw [if_pos c6]
    rw [if_pos c6] at me'
    refine w_Fo_measureStructure ⟨F.s2 hn, ?_⟩
    rintro _ rfl
    rw [R.1]
    have kl := kids_len (S := S) u90 n
    refine c_str_13 F hn KM (kids S n) 0 0 0 0 R.2.2 (fun _ hx => hx) (by omega) ?_
    rw [Nat.zero_add, Nat.zero_add]
    exact two _ _ (by rw [c6]; decide) (by rw [me']) (by rw [me'])
  rw [if_neg c6]
  rw [if_neg c6, if_neg c3, if_neg c4, if_neg c5] at me'
  rintro _ rfl _ rfl
  rw [hI_sL]
  have wd := (F.1.2.2.1 n hn).1
  rw [wd]
  unfold wdT
  by_cases c7 : tG S n 0 = 102
  · rw [if_pos c7]
    rw [if_pos c7] at me'
    exact two _ _ (by rw [c7]; decide) (by rw [me']; rfl) (by rw [me']; rfl)
  rw [if_neg c7]
  by_cases c8 : tG S n 0 = 100
  · rw [if_pos c8]
    rw [if_neg c7, if_pos c8] at me'
    exact two _ _ (by rw [c8]; decide) (by rw [me']; rfl) (by rw [me']; rfl)
  rw [if_neg c8]
  have hz : sz (tG S n 0) = true := by
    rcases Gk.1 with g | g | g | g
    · exact g
    · unfold sm at g
      simp only [Bool.or_eq_true, decide_eq_true_iff] at g
      rcases g with ((g | g) | g) | g <;> exact absurd g (by assumption)
    · exact absurd g c6
    · unfold dp at g
      simp only [Bool.or_eq_true, decide_eq_true_iff] at g
      rcases g with (g | g) | g <;> exact absurd g (by assumption)
  obtain ⟨dg1, dg2, dg3, dg4⟩ := dg_num' Gk hz
  rw [if_pos hz, dg1, iv_jv (by omega)]
  by_cases c9 : tG S n 0 = 112
  · exact k _ NFr.two (fun q => absurd c9 q) fun _ => hL_s
  · rw [if_neg c7, if_neg c8, if_neg c9] at me'
    exact two _ _ c9 (by rw [me']) (by rw [me'])
theorem c_repeats {K : Int32 → Hp → Prop} (F : Fcx h b S) (A : ∀ n, n < S.1 → AOk S n) (hn : n < S.1) (KM : KidM h b S n) (k1 : FitN S n → K 1 h) (k0 : ¬ FitN S n → K 0 h) : Ca d m_Fo_repeatsFittingly [.ref (b + 2 + n)] h (QI K) := by
  have W := F.2.2.2.1
  have R := F.1.2.2.2.1 n hn
  have Gk := (F.2.2.2.2.2.1 n hn).1
  refine w_Fo_repeatsFittingly ⟨F.s2 hn, ?_⟩
  rintro _ rfl
  rw [(F.1.2.1 n hn).1, R.1]
  have one : dp (tG S n 0) = true → ∃ c r, kids S n = c :: r := by
    intro hd
    obtain ⟨x, x1, x2⟩ := Gk.2.2 hd
    have xk : x ∈ kids S n := kids_mem.mpr ⟨x1, x2⟩
    cases e : kids S n with
    | nil => rw [e] at xk; exact nomatch xk
    | cons c r => exact ⟨c, r, rfl⟩
  have pos : ∀ m : Nat, m ≤ 1000 → ((0 : Int64) < jv m ↔ 0 < m) := fun m hm => jv_lt (a := 0) (by decide) (by omega)
  by_cases c1 : tG S n 0 = 42
  · rw [if_pos c1]
    obtain ⟨c, r, e⟩ := one (by rw [c1]; rfl)
    have ck : c ∈ kids S n := by rw [e]; exact List.mem_cons_self ..
    obtain ⟨q, q1, q2⟩ := KM c ck
    obtain ⟨m1, m2⟩ := q.resolve_left (not_bits F A ck (by rw [c1]; decide))
    rw [e, show hdR b (c :: r) = b + 2 + c from rfl, if_neg (by omega), m2]
    refine ⟨F.s2 (kids_gt W ck).2, ?_⟩
    by_cases z : 0 < (me S c).2
    · rw [if_pos ((pos _ q2).mpr z)]
      refine k1 ⟨fun _ c' r' e' => ?_, fun w => by rw [c1] at w; exact absurd w (by decide)⟩
      rw [e] at e'; cases e'; exact z
    · rw [if_neg (fun w => z ((pos _ q2).mp w))]
      exact k0 fun w => z (w.1 c1 c r e)
  rw [if_neg c1]
  by_cases c2 : tG S n 0 = 47
  · rw [if_pos c2]
    obtain ⟨c, r, e⟩ := one (by rw [c2]; rfl)
    have ck : c ∈ kids S n := by rw [e]; exact List.mem_cons_self ..
    obtain ⟨q, q1, q2⟩ := KM c ck
    obtain ⟨m1, m2⟩ := q.resolve_left (not_bits F A ck (by rw [c2]; decide))
    rw [e, show hdR b (c :: r) = b + 2 + c from rfl, if_neg (by omega), m1]
    refine ⟨F.s2 (kids_gt W ck).2, ?_⟩
    by_cases z : 0 < (me S c).1
    · rw [if_pos ((pos _ (by omega)).mpr z)]
      refine k1 ⟨fun w => absurd w c1, fun _ c' r' e' => ?_⟩
      rw [e] at e'; cases e'; exact z
    · rw [if_neg (fun w => z ((pos _ (by omega)).mp w))]
      exact k0 fun w => z (w.2 c2 c r e)
  · rw [if_neg c2]
    exact k1 ⟨fun w => absurd w c1, fun w => absurd w c2⟩
/-- a compiled table -/
def CpT (h : Hp) (b : Nat) (S : Tb) : Prop := FmT h b S ∧ (∀ k, k < S.1 → dp (tG S k 0) = true → hR h (b + 2 + k) 5 = rfN b (mnt S k)) ∧ (∀ k, k < S.1 → MsC h b S k)
/-- the second pass: measures -/
theorem c_sound_58 {K : Int32 → Hp → Prop} {h0 : Hp} {y : Option Value} (A : ∀ n, n < S.1 → AOk S n) (k0 : ¬ (∀ n, n < S.1 → BOk S n) → ∀ h', SFr b h0 h' → K 0 h') (k1 : (∀ n, n < S.1 → BOk S n) → ∀ h', SFr b h0 h' → CpT h' b S → K 1 h') :
    ∀ (i : Nat) (h : Hp), i ≤ S.1 → Fcx h b S → SFr b h0 h → (∀ k, k < S.1 → dp (tG S k 0) = true → hR h (b + 2 + k) 5 = rfN b (mnt S k)) → (∀ k, k < i → hL h (b + 2 + k) 14 = 0) → (∀ k, i ≤ k → k < S.1 → MsC h b S k ∧ BOk S k ∧ (me S k).1 ≤ (me S k).2) →
    Wp (d + 4) m_Fo_isSound 58 [some (.ref b), some (.int (iv i - 1)), y] [] h (QI K)
  | 0, h, hi, F, fr, hm, h14, hM => by
    refine w_Fo_isSound_58 ?_
    rw [if_pos (by decide)]
    exact k1 (fun n hn => (hM n (Nat.zero_le _) hn).2.1) h fr ⟨F.1, hm, fun k hk => (hM k (Nat.zero_le _) hk).1⟩
  | i + 1, h, hi, F, fr, hm, h14, hM => by
    have u90 := F.1.1.2
    have W := F.2.2.2.1
    have hil : i < S.1 := hi
    have dec : iv (i + 1) - 1 = iv i := by rw [iv1, iv_sub (by omega), Nat.add_sub_cancel]
    have KM : KidM h b S i := fun k hk => by
      obtain ⟨g1, g2⟩ := kids_gt W hk
      obtain ⟨a, c, e⟩ := hM k g1 g2
      exact ⟨a, e, c.1⟩
    have ml := me_le F.2.2.2 A hil (fun k hk => (KM k hk).2)
    refine w_Fo_isSound_58 ?_
    rw [dec, if_neg (iv_neg (by omega))]
    refine ⟨F.2.1.1, ?_⟩
    rw [F.2.1.2.1, F.2.1.2.2.1, iv_clamp (by omega), (F.2.1.2.2.2 i (by omega)).1]
    refine ⟨rfl, ainr_iv (by omega) (by omega), ?_⟩
    refine c_measure F A hil KM (hm i hil) (h14 i (Nat.lt_succ_self _)) fun h' nf v1 v2 => ?_
    have sf := nf.sfr (show i < 90 by omega)
    have F' := F.fr sf
    refine ⟨F'.2.1.1, ?_⟩
    rw [F'.2.1.2.1, F'.2.1.2.2.1, (F'.2.1.2.2.2 i (by omega)).1]
    refine ⟨rfl, ainr_iv (by omega) (by omega), F'.s2 hil, ?_⟩
    have oth : ∀ k, ¬ k = i → MsC h b S k → MsC h' b S k := fun k q m => by
      rcases m with m | ⟨m1, m2⟩
      · exact Or.inl m
      · exact Or.inr ⟨by rw [nf.2 _ _ (by omega)]; exact m1, by rw [nf.2 _ _ (by omega)]; exact m2⟩
    have KM' : KidM h' b S i := fun k hk => ⟨oth k (by have := (kids_gt W hk).1; omega) (KM k hk).1, (KM k hk).2⟩
    have big : (1000 : Int64) < hL h' (b + 2 + i) 14 ↔ 1000 < (me S i).2 := by
      by_cases c : tG S i 0 = 112
      · rw [v2 c]
        have d7 := (dg_num' (F.2.2.2.2.2.1 i hil).1 (by rw [c]; rfl)).2.2.1
        have e1 : (me S i).2 = 1 := by
          rw [me_eq W hil]; unfold locN; rw [c]; rfl
        rw [show (1000 : Int64) = jv 1000 from rfl, jv_lt (by omega) (by omega), e1]; omega
      · rw [(v1 c).2, show (1000 : Int64) = jv 1000 from rfl, jv_lt (by omega) (by omega)]
    by_cases c : 1000 < (me S i).2
    · rw [if_pos (big.mpr c)]
      exact k0 (fun q => by have := (q i hil).1; omega) h' (fr.trans sf)
    · rw [if_neg (fun q => c (big.mp q))]
      refine c_repeats F' A hil KM' (fun fit => ?_) fun fit => ?_
      · rw [if_neg (by decide)]
        rintro _ rfl
        rw [show iv i + (-1 : Int32) = iv i - 1 from (Int32.sub_eq_add_neg _ _).symm]
        refine c_sound_58 A k0 k1 i h' (by omega) F' (fr.trans sf) (fun k hk hd => by rw [nf.1.2.1]; exact hm k hk hd) (fun k hk => by rw [nf.2 _ _ (by omega)]; exact h14 k (by omega)) fun k k1 k2 => ?_
        by_cases z : k = i
        · subst z
          refine ⟨?_, ⟨by omega, fit⟩, ml.1⟩
          by_cases w : tG S k 0 = 112
          · exact Or.inl w
          · exact Or.inr (v1 w)
        · obtain ⟨a, b', c'⟩ := hM k (by omega) k2
          exact ⟨oth k z a, b', c'⟩
      · rw [if_pos rfl]
        exact k0 (fun q => fit (q i hil).2) h' (fr.trans sf)
/-- **the class's soundness** -/
theorem c_isSound {K : Int32 → Hp → Prop} (F : Fcx h b S) (h14 : ∀ k, k < S.1 → hL h (b + 2 + k) 14 = 0) (k0 : ¬ Snd_ S → ∀ h', SFr b h h' → K 0 h') (k1 : Snd_ S → ∀ h', SFr b h h' → CpT h' b S → K 1 h') : Ca (d + 4) m_Fo_isSound [.ref b] h (QI K) := by
  refine w_Fo_isSound (c_sound_2 (h0 := h) (fun q h' f => k0 (fun s => q s.1) h' f) (fun A h' f l m => ?_) S.1 0 h _ (Nat.zero_add _) F (SFr.refl b h) rfl (fun n hn => absurd hn (Nat.not_lt_zero _)) (fun q => absurd q (Nat.not_lt_zero _)))
  have F' := F.fr f
  rw [F'.1.1.1]
  exact c_sound_58 A (fun q h2 f2 => k0 (fun s => q s.2) h2 (f.trans f2)) (fun B h2 f2 c => k1 ⟨A, B⟩ h2 (f.trans f2) c) S.1 h' (Nat.le_refl _) F' (SFr.refl b h') m (fun k hk => by rw [l]; exact h14 k hk) fun k k1 k2 => absurd k2 (by omega)
end MEA
