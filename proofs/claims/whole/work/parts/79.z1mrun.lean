/-! the Model's machine: counted, sized, choices, all -/
section MRUN2
variable {ω : Type} {d dm : Nat} {S : Tb} {U : Nat → Nat → ω → Int32 × Nat × ω × Int64} {sp : Nat → ω → Int32 × Nat} {Rx Ry Dm : Ps ω → Hp → Prop} {Fl : Int32 → Int32 → Int32 → Hp → Prop} {y1 : Option Value} {KK : Hp → Prop}
theorem r_ctd (T : TW S) (N : Snd_ S) (H : MH S U sp Rx Ry Dm Fl) {f D n c : Nat} {r : List Nat} (hD : D + f = 4) (hn : n < S.1) (h42 : tG S n 0 = 42) (hk : kids S n = c :: r) (hc : chn S.2.2 (D + 1) n) (RI : RecI S U sp f) (R : RecMo dm S U sp Rx Ry Fl y1 KK f) {g0 : Hp} {x p : Int32} (hx : x = iv c) : ∀ (m : Nat) (s : Ps ω) (g : Hp), m < 2 ^ 63 → Ry s g → Av S n s → ¬ (pCt (psF S U sp f) c m s).1 = 7 → FrS D g0 g → hI g 197 39 = iv (D + 1) → Frm g D n x (jv m) p →
    ((pCt (psF S U sp f) c m s).1 = 0 → ∀ g', Ry (pCt (psF S U sp f) c m s).2 g' → FrS D g0 g' → hI g' 197 39 = iv D → LPm dm y1 KK g') →
    (¬ (pCt (psF S U sp f) c m s).1 = 0 → ∀ g', Fl ((pCt (psF S U sp f) c m s).1 + 1) (pCt (psF S U sp f) c m s).2.2.2.2.1 (pCt (psF S U sp f) c m s).2.2.2.2.2 g' → LPm dm y1 KK g') → LPm dm y1 KK g := by
  have ck : c ∈ kids S n := by rw [hk]; simp
  have c1 := (kids_mem.mp ck).1
  have u90 := T.2.1.2
  have n123 : ¬ tG S n 0 = 123 := by rw [h42]; decide
  have nb := nbits N ck n123
  intro m
  induction m with
  | zero =>
    intro s g hm ry A ne fr ht F kF kE
    obtain ⟨⟨T1, A1, f0, b4, b5⟩, al⟩ := H.1.2.1 s g ry
    refine lp_step T1.1.o f0 ht (by omega) ?_
    refine m_on T1 hn (by omega) ht F (fun z => ?_) (fun z => ?_) (fun _ _ => ?_) (fun _ q => ?_) (fun z => ?_) (fun z => ?_) (fun z => ?_) (fun z => ?_) (fun z => ?_) (Or.inr (by rw [h42]; rfl)) (Or.inr ⟨c, c1, hx⟩) f0
    · exact absurd z n123
    · exact absurd z n123
    · exact kF rfl _ (H.2.1.2.1 _ _ _ (Mch.sL.trans mch39) ry) ((fr.trans frs225).trans frs39) hI_s
    · exact absurd (show jv 0 - 1 < 0 by decide) q
    all_goals (rw [h42] at z; exact absurd z (by decide))
  | succ m ih =>
    intro s g hm ry A ne fr ht F kF kE
    obtain ⟨⟨T1, A1, f0, b4, b5⟩, al⟩ := H.1.2.1 s g ry
    have Ac : Av S c s := Av.kid T ck n123 A
    obtain ⟨r1, r2⟩ := RI (D + 1 + 1) c s (by omega) c1 (chn_kid ck hc) Ac (fun _ => al)
    refine lp_step T1.1.o f0 ht (by omega) ?_
    refine m_on T1 hn (by omega) ht F (fun z => ?_) (fun z => ?_) (fun _ q => ?_) (fun _ q => ?_) (fun z => ?_) (fun z => ?_) (fun z => ?_) (fun z => ?_) (fun z => ?_) (Or.inr (by rw [h42]; rfl)) (Or.inr ⟨c, c1, hx⟩) f0
    · exact absurd z n123
    · exact absurd z n123
    · rw [jv_dec] at q; exact absurd q (jv_nn (by omega))
    · rw [jv_dec, hk]
      have mc : Mch g (sL g 225 D (jv m)) := Mch.sL
      unfold pCt at ne kF kE
      refine R (D + 1) c s _ (dm + 0) (by omega) c1 (chn_kid ck hc) Ac (bnd_ne ne) ht (fun q => absurd q (not_on (mc.tab T1) c1 nb)) (fun _ => H.2.1.2.1 _ _ _ mc ry) (fun z g' _ h2 fr' ht' => ?_) fun z g' fl => ?_
      · obtain ⟨a1, a2, a3, a4, a5⟩ := r2 z
        rw [bnd_0 z] at ne kF kE
        exact ih _ g' (by omega) (h2 nb) (A.kv a4) ne ((fr.trans frs225).trans (fr'.le (by omega))) ht' (fr'.frm (by omega) ⟨F.1, F.2.1, hL_s, F.2.2.2⟩) kF kE
      · rw [bnd_n z] at kE
        exact kE z g' fl
    all_goals (rw [h42] at z; exact absurd z (by decide))
theorem r_szd (T : TW S) (N : Snd_ S) (H : MH S U sp Rx Ry Dm Fl) {f D n c : Nat} {r : List Nat} (hD : D + f = 4) (hn : n < S.1) (h47 : tG S n 0 = 47) (hk : kids S n = c :: r) (hc : chn S.2.2 (D + 1) n) (RI : RecI S U sp f) (R : RecMo dm S U sp Rx Ry Fl y1 KK f) {g0 : Hp} {x : Int32} (hx : x = iv c) {p0 v : Nat} (hv : v ≤ 1000) : ∀ (m : Nat) (s : Ps ω) (g : Hp), p0 ≤ bfN s.1 → Ry s g → Av S n s → ¬ (pSd (psF S U sp f) c (p0 + v) m s).1 = 7 → FrS D g0 g → hI g 197 39 = iv (D + 1) → Frm g D n x (jv v) (iv p0) →
    ((pSd (psF S U sp f) c (p0 + v) m s).1 = 0 → ∀ g', Ry (pSd (psF S U sp f) c (p0 + v) m s).2 g' → FrS D g0 g' → hI g' 197 39 = iv D → LPm dm y1 KK g') →
    (¬ (pSd (psF S U sp f) c (p0 + v) m s).1 = 0 → ∀ g', Fl ((pSd (psF S U sp f) c (p0 + v) m s).1 + 1) (pSd (psF S U sp f) c (p0 + v) m s).2.2.2.2.1 (pSd (psF S U sp f) c (p0 + v) m s).2.2.2.2.2 g' → LPm dm y1 KK g') → LPm dm y1 KK g := by
  have ck : c ∈ kids S n := by rw [hk]; simp
  have c1 := (kids_mem.mp ck).1
  have u90 := T.2.1.2
  have n123 : ¬ tG S n 0 = 123 := by rw [h47]; decide
  have nb := nbits N ck n123
  -- what the loop asks
  have ask : ∀ (s : Ps ω) (g : Hp), p0 ≤ bfN s.1 → Bm S s g → (hI g 197 42 - iv p0).toInt64 = jv (bfN s.1 - p0) ∧ bfN s.1 < 2000 := fun s g le B => by
    have l := bf_lt B.2.2.2.1.2
    rw [B.2.2.2.1.1, iv_sub le, iv_jv (by omega)]
    exact ⟨rfl, l⟩
  have fin : ∀ (s : Ps ω) (g : Hp), p0 ≤ bfN s.1 → Ry s g → FrS D g0 g → hI g 197 39 = iv (D + 1) → Frm g D n x (jv v) (iv p0) → ¬ bfN s.1 < p0 + v →
      ((if p0 + v < bfN s.1 then (2, s) else (0, s) : Int32 × Ps ω).1 = 0 → ∀ g', Ry (if p0 + v < bfN s.1 then (2, s) else (0, s) : Int32 × Ps ω).2 g' → FrS D g0 g' → hI g' 197 39 = iv D → LPm dm y1 KK g') →
      (¬ (if p0 + v < bfN s.1 then (2, s) else (0, s) : Int32 × Ps ω).1 = 0 → ∀ g', Fl ((if p0 + v < bfN s.1 then (2, s) else (0, s) : Int32 × Ps ω).1 + 1) (if p0 + v < bfN s.1 then (2, s) else (0, s) : Int32 × Ps ω).2.2.2.2.1 (if p0 + v < bfN s.1 then (2, s) else (0, s) : Int32 × Ps ω).2.2.2.2.2 g' → LPm dm y1 KK g') → LPm dm y1 KK g := by
    intro s g le ry fr ht F q kF kE
    obtain ⟨B, al⟩ := H.1.2.1 s g ry
    obtain ⟨T1, A1, f0, b4, b5⟩ := id B
    obtain ⟨as, l⟩ := ask s g le B
    refine lp_step T1.1.o f0 ht (by omega) ?_
    refine m_on T1 hn (by omega) ht F (fun z => ?_) (fun z => ?_) (fun z => ?_) (fun z => ?_) (fun _ w => ?_) (fun _ w1 w2 _ => ?_) (fun _ w1 w2 => ?_) (fun z => ?_) (fun z => ?_) (Or.inr (by rw [h47]; rfl)) (Or.inr ⟨c, c1, hx⟩) f0
    · exact absurd z n123
    · exact absurd z n123
    · rw [h47] at z; exact absurd z (by decide)
    · rw [h47] at z; exact absurd z (by decide)
    · rw [as, jv_lt (by omega) (by omega)] at w; omega
    · rw [as, jv_lt (by omega) (by omega)] at w2
      have q2 : p0 + v < bfN s.1 := by omega
      rw [if_pos q2] at kE
      exact kE (show ¬ (2 : Int32) = 0 by decide) _ (H.2.2.2.2.2.1 _ _ _ _ _ mch39 (H.2.2.2.1.2.2 s g (Or.inl ry)))
    · rw [as, jv_lt (by omega) (by omega)] at w2
      have q2 : ¬ p0 + v < bfN s.1 := by omega
      rw [if_neg q2] at kF
      exact kF rfl _ (H.2.1.2.1 _ _ _ mch39 ry) (fr.trans frs39) hI_s
    · rw [h47] at z; exact absurd z (by decide)
    · rw [h47] at z; exact absurd z (by decide)
  intro m
  induction m with
  | zero =>
    intro s g le ry A ne fr ht F kF kE
    unfold pSd at ne kF kE
    by_cases q : bfN s.1 < p0 + v
    · rw [if_pos q] at ne; exact absurd rfl ne
    · rw [if_neg q] at kF kE
      exact fin s g le ry fr ht F q kF kE
  | succ m ih =>
    intro s g le ry A ne fr ht F kF kE
    unfold pSd at ne kF kE
    by_cases q : bfN s.1 < p0 + v
    · rw [if_pos q] at ne kF kE
      obtain ⟨B, al⟩ := H.1.2.1 s g ry
      obtain ⟨T1, A1, f0, b4, b5⟩ := id B
      obtain ⟨as, l⟩ := ask s g le B
      have Ac : Av S c s := Av.kid T ck n123 A
      obtain ⟨r1, r2⟩ := RI (D + 1 + 1) c s (by omega) c1 (chn_kid ck hc) Ac (fun _ => al)
      refine lp_step T1.1.o f0 ht (by omega) ?_
      refine m_on T1 hn (by omega) ht F (fun z => ?_) (fun z => ?_) (fun z => ?_) (fun z => ?_) (fun _ w => ?_) (fun _ w1 _ _ => ?_) (fun _ w1 _ => ?_) (fun z => ?_) (fun z => ?_) (Or.inr (by rw [h47]; rfl)) (Or.inr ⟨c, c1, hx⟩) f0
      · exact absurd z n123
      · exact absurd z n123
      · rw [h47] at z; exact absurd z (by decide)
      · rw [h47] at z; exact absurd z (by decide)
      · rw [hk]
        refine R (D + 1) c s _ (dm + 0) (by omega) c1 (chn_kid ck hc) Ac (bnd_ne ne) ht (fun q => absurd q (not_on T1 c1 nb)) (fun _ => ry) (fun z g' _ h2 fr' ht' => ?_) fun z g' fl => ?_
        · obtain ⟨a1, a2, a3, a4, a5⟩ := r2 z
          rw [bnd_0 z] at ne kF kE
          exact ih _ g' (by unfold bfN at le ⊢; omega) (h2 nb) (A.kv a4) ne (fr.trans (fr'.le (by omega))) ht' (fr'.frm (by omega) F) kF kE
        · rw [bnd_n z] at kE
          exact kE z g' fl
      · rw [as, jv_lt (by omega) (by omega)] at w1; omega
      · rw [as, jv_lt (by omega) (by omega)] at w1; omega
      · rw [h47] at z; exact absurd z (by decide)
      · rw [h47] at z; exact absurd z (by decide)
    · rw [if_neg q] at kF kE
      exact fin s g le ry fr ht F q kF kE
theorem r_pass (T : TW S) (N : Snd_ S) (LA : LvA S) (hs : SOk (ω := ω) sp) (hu : UOk S U) (H : MH S U sp Rx Ry Dm Fl) : ∀ f, RecMo dm S U sp Rx Ry Fl y1 KK f
  | 0 => fun D n s g j hD hn hc _ _ _ _ _ _ _ => by
    have := chn_le 5 (D + 1) n (LA n hn) hc; omega
  | f + 1 => fun D n s g j hD hn hc A ne ht ex ey kF kE => by
    have R := r_pass T N LA hs hu H f
    have RI := i_pass (sp := sp) T N LA hs hu f
    have u90 := T.2.1.2
    have B : Bm S s g := by
      by_cases q : onM g n
      · exact H.1.1 s g (ex q)
      · exact (H.1.2.1 s g (ey q)).1
    obtain ⟨T1, A1, f0, b4, b5⟩ := B
    obtain ⟨gk, -, -⟩ := (T.2.2.1 n hn).1
    have val : ∀ m, mnt S n = m + 1 → ∃ v, s.2.2.1 m = some v ∧ hL g 222 m = v := fun m em => by
      obtain ⟨bm, zm⟩ := mnt_bf T.1 hn em
      obtain ⟨v, ev, -, -⟩ := A m bm zm
      exact ⟨v, ev, (b5 m v ev).2⟩
    unfold psF at ne kF kE
    have n112 : ∀ {q : Prop}, (tG S n 0 = 123 ∨ dp (tG S n 0) = true) → ¬ tG S n 0 = 112 := fun q z => by
      rcases q with q | q
      · rw [q] at z; exact absurd z (by decide)
      · rw [z] at q; cases q
    refine m_ent T1 A1 hn (by omega) ht f0 (fun c => ?_) (fun m p em c63 neg => ?_) (fun m p em c63 neg => ?_) (fun m c63 em ef => ?_) (fun m k c63 em ef => ?_) (fun p => meant_ok T N hn p) (fun c1 c2 => ?_)
    · have nb := n112 (q := True) (Or.inl c)
      have ry := ey (not_on T1 hn nb)
      rw [if_pos c] at ne kF kE
      exact r_flds T N LA hs H (by omega) hn c hc RI R (g0 := g) (kids S n) [] s _ rfl (fun q => absurd q PB_nil) (fun _ => H.2.1.2.1 _ _ _ psh_mch ry) A (fun m hm => by cases hm) ne psh_frs psh_dep psh_frm (fun z g' r => kF z g' (fun q => absurd q nb) (fun _ => r)) kE
    · have nb := n112 (q := True) (Or.inr p)
      have ry := ey (not_on T1 hn nb)
      have n123 : ¬ tG S n 0 = 123 := fun z => by rw [z] at p; cases p
      obtain ⟨v, ev, lv⟩ := val m em
      rw [if_neg n123, if_pos p, em, if_neg (Nat.succ_ne_zero m), Nat.succ_sub_one, ev, pDp] at ne kF kE
      rw [lv] at neg ⊢
      have q2 : (if tG S n 0 = 42 then (if v < 0 then (2, s) else pCt (psF S U sp f) (hd0 (kids S n)) v.toInt.toNat s) else if tG S n 0 = 47 then (if v < 0 then (2, s) else if 1000 < v then (7, s) else pSd (psF S U sp f) (hd0 (kids S n)) (bfN s.1 + v.toInt.toNat) 1000 s) else pCh S (psF S U sp f) v (kids S n) s) = ((2 : Int32), s) := by
        by_cases c42 : tG S n 0 = 42
        · rw [if_pos c42, if_pos neg]
        · have c47 : tG S n 0 = 47 := by
            unfold dp at p
            simp only [Bool.or_eq_true, decide_eq_true_eq] at p
            rcases p with (p | p) | p
            · exact absurd p c42
            · exact p
            · exact absurd p c63
          rw [if_neg c42, if_pos c47, if_pos neg]
      rw [q2] at kE
      exact kE (show ¬ (2 : Int32) = 0 by decide) _ (H.2.2.2.2.2.1 _ _ _ _ _ psh_mch (H.2.2.2.1.2.2 s g (Or.inl ry)))
    · have nb := n112 (q := True) (Or.inr p)
      have ry := ey (not_on T1 hn nb)
      have n123 : ¬ tG S n 0 = 123 := fun z => by rw [z] at p; cases p
      obtain ⟨v, ev, lv⟩ := val m em
      rw [if_neg n123, if_pos p, em, if_neg (Nat.succ_ne_zero m), Nat.succ_sub_one, ev, pDp] at ne kF kE
      rw [lv] at neg ⊢
      obtain ⟨c, rr, hk⟩ := kids_one T hn p
      have ej := jv_of neg
      have vlt := v.toInt_lt
      have ryp : ∀ x w, Ry s (pshG g D n x w) := fun x w => H.2.1.2.1 _ _ _ psh_mch ry
      by_cases c42 : tG S n 0 = 42
      · rw [if_pos c42, if_neg neg, hk] at ne kF kE
        rw [hk]
        exact r_ctd T N H (by omega) hn c42 hk hc RI R (g0 := g) (x := hdI (c :: rr)) (p := hI g 197 42) rfl v.toInt.toNat s _ (by omega) (ryp _ _) A ne psh_frs psh_dep (by rw [← ej]; exact psh_frm) (fun z g' r => kF z g' (fun q => absurd q nb) (fun _ => r)) kE
      · have c47 : tG S n 0 = 47 := by
          unfold dp at p
          simp only [Bool.or_eq_true, decide_eq_true_eq] at p
          rcases p with (p | p) | p
          · exact absurd p c42
          · exact p
          · exact absurd p c63
        rw [if_neg c42, if_pos c47, if_neg neg] at ne kF kE
        by_cases v1 : 1000 < v
        · rw [if_pos v1] at ne; exact absurd rfl ne
        rw [if_neg v1, hk] at ne kF kE
        have v3 : v.toInt.toNat ≤ 1000 := by
          rw [Int64.lt_iff_toInt_lt, show (1000 : Int64).toInt = 1000 from rfl] at v1; omega
        rw [hk]
        exact r_szd T N H (by omega) hn c47 hk hc RI R (g0 := g) (x := hdI (c :: rr)) rfl v3 1000 s _ (Nat.le_refl _) (ryp _ _) A ne psh_frs psh_dep (by rw [← ej, ← b4.1]; exact psh_frm) (fun z g' r => kF z g' (fun q => absurd q nb) (fun _ => r)) kE
    · have p : dp (tG S n 0) = true := by rw [c63]; rfl
      have nb := n112 (q := True) (Or.inr p)
      have ry := ey (not_on T1 hn nb)
      have n123 : ¬ tG S n 0 = 123 := by rw [c63]; decide
      obtain ⟨v, ev, lv⟩ := val m em
      rw [if_neg n123, if_pos p, em, if_neg (Nat.succ_ne_zero m), Nat.succ_sub_one, ev, pDp, if_neg (by rw [c63]; decide), if_neg (by rw [c63]; decide), pCh_fC] at ne kF kE
      rw [lv] at ef
      rw [ef] at kE
      exact kE (show ¬ (2 : Int32) = 0 by decide) _ (H.2.2.2.2.2.1 _ _ _ _ _ psh_mch (H.2.2.2.1.2.2 s g (Or.inl ry)))
    · have p : dp (tG S n 0) = true := by rw [c63]; rfl
      have nb := n112 (q := True) (Or.inr p)
      have ry := ey (not_on T1 hn nb)
      have n123 : ¬ tG S n 0 = 123 := by rw [c63]; decide
      obtain ⟨v, ev, lv⟩ := val m em
      rw [if_neg n123, if_pos p, em, if_neg (Nat.succ_ne_zero m), Nat.succ_sub_one, ev, pDp, if_neg (by rw [c63]; decide), if_neg (by rw [c63]; decide), pCh_fC] at ne kF kE
      rw [lv] at ef ⊢
      rw [ef] at ne kF kE
      have kk := fC_mem ef
      have k1 := (kids_mem.mp kk).1
      have nk := nbits N kk n123
      have ryp : Ry s (pshG g D n (iv k) v) := H.2.1.2.1 _ _ _ psh_mch ry
      obtain ⟨⟨T2, A2, f2, b42, b52⟩, al⟩ := H.1.2.1 s _ ryp
      refine lp_step T2.1.o f2 psh_dep (by omega) ?_
      refine m_on T2 hn (by omega) psh_dep psh_frm (fun z => ?_) (fun z => ?_) (fun z => ?_) (fun z => ?_) (fun z => ?_) (fun z => ?_) (fun z => ?_) (fun _ q => ?_) (fun _ k' hk' e' => ?_) (Or.inr p) (Or.inr ⟨k, k1, rfl⟩) f2
      · exact absurd z n123
      · exact absurd z n123
      · rw [c63] at z; exact absurd z (by decide)
      · rw [c63] at z; exact absurd z (by decide)
      · rw [c63] at z; exact absurd z (by decide)
      · rw [c63] at z; exact absurd z (by decide)
      · rw [c63] at z; exact absurd z (by decide)
      · exact absurd q (iv_neg (by omega))
      · have e'' : k' = k := ((iv_inj (by omega) (by omega)).mp e').symm
        subst e''
        have mc : Mch (pshG g D n (iv k') v) (sI (pshG g D n (iv k') v) 224 D (-1)) := Mch.sI (Or.inr (Or.inl rfl))
        refine R (D + 1) k' s _ (dm + 0) (by omega) k1 (chn_kid kk hc) (Av.kid T kk n123 A) ne (by rw [hI_o (by omega)]; exact psh_dep) (fun q => absurd q (not_on (mc.tab T2) k1 nk)) (fun _ => H.2.1.2.1 _ _ _ mc ryp) (fun z g' _ h2 fr' ht' => ?_) kE
        have ry' := h2 nk
        obtain ⟨⟨T3, A3, f3, b43, b53⟩, al3⟩ := H.1.2.1 _ g' ry'
        have F' : Frm g' D n (-1) v (hI g 197 42) := fr'.frm (by omega) ⟨by rw [hI_o (by omega)]; exact psh_frm.1, hI_s, psh_frm.2.2.1, by rw [hI_o (by omega)]; exact psh_frm.2.2.2⟩
        refine lp_step T3.1.o f3 ht' (by omega) ?_
        refine m_on T3 hn (by omega) ht' F' (fun z => ?_) (fun z => ?_) (fun z => ?_) (fun z => ?_) (fun z => ?_) (fun z => ?_) (fun z => ?_) (fun _ q => ?_) (fun _ k' hk' e' => ?_) (Or.inr p) (Or.inl (by decide)) f3
        · exact absurd z n123
        · exact absurd z n123
        · rw [c63] at z; exact absurd z (by decide)
        · rw [c63] at z; exact absurd z (by decide)
        · rw [c63] at z; exact absurd z (by decide)
        · rw [c63] at z; exact absurd z (by decide)
        · rw [c63] at z; exact absurd z (by decide)
        · exact kF z _ (fun q => absurd q nb) (fun _ => H.2.1.2.1 _ _ _ mch39 ry') (((psh_frs.trans frs224).trans (fr'.le (by omega))).trans frs39) hI_s
        · exfalso
          have l : (-1 : Int32) < 0 := by decide
          rw [e'] at l
          exact iv_neg (by omega) l
    · have u : sz (tG S n 0) = true ∨ sm (tG S n 0) = true := by
        rcases gk with g | g | g | g
        · exact Or.inl g
        · exact Or.inr g
        · exact absurd g c1
        · exact absurd g c2
      rw [if_neg c1, if_neg c2] at ne kF kE
      show Ca (j + 13) m_Mo_unit [.ref 197, .int (iv n)] g (QV (LPm dm y1 KK))
      have al : ¬ tG S n 0 = 112 → s.1 % 8 = 0 := fun q => (H.1.2.1 _ _ (ey (not_on T1 hn q))).2
      have body : ∀ g1, Rx s g1 → Mk g g1 → ∀ y, Wp (j + 12 + 1) m_Mo_unit 52 [some (.ref 197), some (.int (iv n)), some (.int (tG S n 0)), y] [] g1 (QV (LPm dm y1 KK)) := fun g1 rx mk y => by
        refine H.2.2.2.2.1 j n s g1 _ y hn u rx al (fun z g' rx' mk' => ?_) kE
        refine kF z g' (fun _ => rx') (fun q => H.2.2.1.1 _ _ rx' ?_) ((mk.frs D).trans (mk'.frs D)) (by rw [mk'.2, mk.2]; exact ht)
        exact ((hu n s.1 s.2.1 hn u).2 z).2.2.1 q (al q)
      refine m_unit T1 hn (fun z => ?_) (fun q => body g (ex q) ⟨⟨rfl, rfl, rfl, rfl⟩, rfl⟩) fun q => ?_
      · obtain ⟨q, q1, q2⟩ := (N.1 n hn).1.1 z
        exact ⟨q, by have := T.1 n hn; omega, kids_mem.mpr ⟨hn, q1⟩⟩
      · exact H.2.2.2.1.1 (j + 11) s g _ (ey q) fun g1 rx mk => body g1 rx mk
end MRUN2
