theorem ti {c k : Int32} {z : Int} (hk : k.toInt = z) : (c.toInt = z) = (c = k) := by rw [← hk, Int32.toInt_inj]
theorem c_beginsType {d : Nat} {K : Int32 → Hp → Prop} {c x : Int32} {h : Hp} (k : K (if (sz c || sm c || decide (c = 123) || (dp c && decide (x < 5))) = true then 1 else 0) h) : Ca d m_Pa_beginsType [.int c, .int x] h (QI K) := by
  refine w_Pa_beginsType ?_
  simp only [ti (k := 42) (z := 42) rfl, ti (k := 47) (z := 47) rfl, ti (k := 63) (z := 63) rfl, ti (k := 100) (z := 100) rfl, ti (k := 102) (z := 102) rfl, ti (k := 112) (z := 112) rfl, ti (k := 114) (z := 114) rfl, ti (k := 115) (z := 115) rfl, ti (k := 117) (z := 117) rfl, ti (k := 118) (z := 118) rfl, ti (k := 122) (z := 122) rfl, ti (k := 123) (z := 123) rfl]
  have five : ∀ {p q : Prop} {c : Int32}, sz c = false → sm c = false → ¬ c = 123 → dp c = true → K (if (sz c || sm c || decide (c = 123) || (dp c && decide (x < 5))) = true then 1 else 0) h → (if x < 5 then K 1 h else K 0 h) := by
    intro _ _ c a1 a2 a3 a4 q
    rw [a1, a2, decide_eq_false a3, a4] at q
    by_cases e : x < 5
    · rw [if_pos e]; rw [decide_eq_true e] at q; exact q
    · rw [if_neg e]; rw [decide_eq_false e] at q; exact q
  by_cases a1 : c = 42
  · rw [if_pos a1]; exact five (p := True) (q := True) (c := c) (by rw [a1]; rfl) (by rw [a1]; rfl) (by rw [a1]; decide) (by rw [a1]; rfl) k
  rw [if_neg a1]
  by_cases a2 : c = 47
  · rw [if_pos a2]; exact five (p := True) (q := True) (c := c) (by rw [a2]; rfl) (by rw [a2]; rfl) (by rw [a2]; decide) (by rw [a2]; rfl) k
  rw [if_neg a2]
  by_cases a3 : c = 63
  · rw [if_pos a3]; exact five (p := True) (q := True) (c := c) (by rw [a3]; rfl) (by rw [a3]; rfl) (by rw [a3]; decide) (by rw [a3]; rfl) k
  rw [if_neg a3]
  have dp0 : dp c = false := by unfold dp; rw [decide_eq_false a1, decide_eq_false a2, decide_eq_false a3]; rfl
  rw [dp0, Bool.false_and, Bool.or_false] at k
  by_cases b1 : c = 100
  · rw [if_pos b1]; rw [b1] at k; exact k
  rw [if_neg b1]
  by_cases b2 : c = 102
  · rw [if_pos b2]; rw [b2] at k; exact k
  rw [if_neg b2]
  by_cases b3 : c = 112
  · rw [if_pos b3]; rw [b3] at k; exact k
  rw [if_neg b3]
  by_cases b4 : c = 114
  · rw [if_pos b4]; rw [b4] at k; exact k
  rw [if_neg b4]
  by_cases b5 : c = 115
  · rw [if_pos b5]; rw [b5] at k; exact k
  rw [if_neg b5]
  by_cases b6 : c = 117
  · rw [if_pos b6]; rw [b6] at k; exact k
  rw [if_neg b6]
  by_cases b7 : c = 118
  · rw [if_pos b7]; rw [b7] at k; exact k
  rw [if_neg b7]
  by_cases b8 : c = 122
  · rw [if_pos b8]; rw [b8] at k; exact k
  rw [if_neg b8]
  by_cases b9 : c = 123
  · rw [if_pos b9]; rw [b9] at k; exact k
  rw [if_neg b9]
  have e1 : sz c = false := by unfold sz; rw [decide_eq_false b6, decide_eq_false b7, decide_eq_false b5, decide_eq_false b3]; rfl
  have e2 : sm c = false := by unfold sm; rw [decide_eq_false b2, decide_eq_false b1, decide_eq_false b8, decide_eq_false b4]; rfl
  rw [e1, e2, decide_eq_false b9] at k; exact k
section PAR
variable {d p b N : Nat} {t : Nat → Int32}
/-- the number's digit and its limit -/
theorem c_sz {K : Int32 → Hp → Prop} {h : Hp} {i n : Nat} {S : Tb} {O E : List Nat} {lim : Int32} (P : Pst h p b i N t) (C : ClT h b S O E) (hn : n ∈ O) (hz : sz (tG S n 0) = true) (hl0 : tG S n 2 = 0) (h14 : hL h (b + 2 + n) 14 = 0)
    (k0 : ∀ j, pSz t lim i n S = (j, none) → ∀ h', Pst h' p b j N t → CFr n p b h h' → K 0 h')
    (k1 : ∀ j S', pSz t lim i n S = (j, some S') → ∀ h', Pst h' p b j N t → ClT h' b S' O E → NdD h' b S' n → CFr n p b h h' → K 1 h') :
    Ca (d + 2) m_Pa_passWidth [.ref p, .ref (b + 2 + n), .int lim] h (QI fun v h1 => if v = 0 then K 0 h1 else (hS h1 p).1 = 4 ∧ Ca (d + 2) m_Pa_passLimit [.ref p, .ref (b + 2 + n)] h1 (QI fun v h2 => if v = 0 then K 0 h2 else K 1 h2)) := by
  have n90 : n < 90 := by have := (C.2.2.2.2.1 n hn).1; have := C.1.2; omega
  have hp := P.1.2.2.2
  have hb := P.2.2.2.2
  have et : t = tx h N := P.2.1.symm
  have nlt := (C.2.2.2.2.1 n hn).1
  refine w_Pa_passWidth ⟨P.1.1.1, by rw [P.1.1.2.1]; exact P.1.2.2.1.1, c_at P.1 ?_⟩
  rintro _ rfl
  rw [← et]
  have bad : (t i - 48 < 1 ∨ lim < t i - 48) → K 0 h := fun q => k0 i (by unfold pSz; rw [if_pos q]) h P (CFr.refl n p b h)
  by_cases a1 : t i - 48 < 1
  · rw [if_pos a1, if_pos rfl]; exact bad (Or.inl a1)
  rw [if_neg a1]
  by_cases a2 : lim < t i - 48
  · rw [if_pos a2, if_pos rfl]; exact bad (Or.inr a2)
  rw [if_neg a2]
  have hi : i < N := by
    refine tx_lt (h := h) fun q => a1 ?_
    rw [et, q]; decide
  have eqz : pSz t lim i n S = pLim t (i + 1) n (tF S n 1 (t i - 48)) := by unfold pSz; rw [if_neg (fun q => by rcases q with q | q; exact a1 q; exact a2 q)]
  rw [eqz] at k0 k1
  refine ⟨P.1.1.1, ?_⟩
  rintro _ rfl
  rw [P.1.1.2.2.2, iv1, iv_add]
  have P1 := P.adv (show i + 1 ≤ N from hi)
  have F1 : CFr n p b h (sI h p 2 (iv (i + 1))) := CFr.pl hp hb
  refine ⟨P1.nd n90, c_widen (kd := tG S n 0) (P1.nd n90) (by rw [hI_ne (by omega)]; exact (C.2.1 n nlt).1) ?_⟩
  -- behind the digit
  generalize eh : sL (sL (sI (sI h p 2 (iv (i + 1))) (b + 2 + n) 1 (t i - 48)) (b + 2 + n) 11 (wLo (tG S n 0) (t i - 48))) (b + 2 + n) 12 (wHi (tG S n 0) (t i - 48)) = h1
  have F2 : CFr n p b h h1 := by
    rw [← eh]
    exact ((F1.trans (CFr.nI (Nat.le_refl _) n90 hp hb)).trans (CFr.nL (Nat.le_refl _) n90 hp hb)).trans (CFr.nL (Nat.le_refl _) n90 hp hb)
  have C2 : ClT h1 b (tF S n 1 (t i - 48)) O E := by
    rw [← eh]
    exact ((((C.pl hp hb).nI hn (Or.inl rfl)).nL hn).nL hn).tF hn (by decide)
  have w2 : hI h1 (b + 2 + n) 1 = t i - 48 := by rw [← eh]; rw [hI_sL, hI_sL]; exact hI_s
  have l2 : hL h1 (b + 2 + n) 11 = wLo (tG S n 0) (t i - 48) := by rw [← eh, hL_o (by omega)]; exact hL_s
  have u2 : hL h1 (b + 2 + n) 12 = wHi (tG S n 0) (t i - 48) := by rw [← eh]; exact hL_s
  have m2 : hL h1 (b + 2 + n) 14 = 0 := by rw [← eh, hL_o (by omega), hL_o (by omega)]; exact h14
  have P2 : Pst h1 p b (i + 1) N t := P.fr F2 (by rw [← eh]; rw [hI_sL, hI_sL, hI_ne (by omega)]; exact hI_s) hi
  clear eh
  have k12 : tG S n 0 = 102 → False := fun q => by rw [q] at hz; cases hz
  have k10 : tG S n 0 = 100 → False := fun q => by rw [q] at hz; cases hz
  have dpf : dp (tG S n 0) = true → False := fun q => by
    unfold dp at q
    simp only [Bool.or_eq_true, decide_eq_true_iff] at q
    rcases q with (q | q) | q <;> rw [q] at hz <;> cases hz
  have g0 : tG (tF S n 1 (t i - 48)) n 0 = tG S n 0 := tG_k (by decide)
  have g1 : tG (tF S n 1 (t i - 48)) n 1 = t i - 48 := by rw [tG_tF, if_pos ⟨rfl, rfl⟩]
  have g2 : tG (tF S n 1 (t i - 48)) n 2 = 0 := by rw [tG_tF, if_neg (by omega)]; exact hl0
  have et1 : tx h1 N = t := P2.2.1
  rw [if_neg (by decide)]
  refine ⟨P2.1.1.1, w_Pa_passLimit ⟨P2.1.1.1, by rw [P2.1.1.2.1]; exact P2.1.2.2.1.1, c_at P2.1 ?_⟩⟩
  rw [et1]
  have lim32 : (t (i + 1) = 60 ∨ t (i + 1) = 62 ∨ t (i + 1) = 61) → ∀ y, Wp (d + 2) m_Pa_passLimit 32 [some (.ref p), some (.ref (b + 2 + n)), some (.int (t (i + 1))), y] [] h1 (QI fun v h2 => if v = 0 then K 0 h2 else K 1 h2) := by
    intro q y
    have hi2 : i + 1 < N := by
      refine tx_lt (h := h1) fun z => ?_
      rw [et1] at z
      rw [z] at q; revert q; decide
    refine w_Pa_passLimit_32 ⟨P2.1.1.1, ?_⟩
    rintro _ rfl
    rw [P2.1.1.2.2.2, iv1, iv_add]
    have P3 := P2.adv (show i + 1 + 1 ≤ N from hi2)
    have F3 : CFr n p b h (sI h1 p 2 (iv (i + 1 + 1))) := F2.trans (CFr.pl hp hb)
    have ql : pLim t (i + 1) n (tF S n 1 (t i - 48)) = if nd t (i + 1 + 1) = 0 then (i + 1 + 1, none) else (i + 1 + 1 + nd t (i + 1 + 1), some (tF (tF (tF S n 1 (t i - 48)) n 2 (t (i + 1))) n 3 (fg t (i + 1 + 1) (nd t (i + 1 + 1))))) := by
      unfold pLim; rw [if_pos q]
    rw [ql] at k0 k1
    refine c_passFigure P3.1 fun m hm hd he => ?_
    have et3 : tx (sI h1 p 2 (iv (i + 1 + 1))) N = t := P3.2.1
    obtain ⟨f1, f2, f3⟩ := fig_nd hm hd he
    rw [et3] at hd he f1 f2 f3 ⊢
    rw [sI_sI]
    have mle : i + 1 + 1 + m ≤ N := by
      by_cases z : m = 0
      · omega
      · have := di_dg.mpr (hd (m - 1) (by omega))
        have hh : i + 1 + 1 + (m - 1) < N := by
          refine tx_lt (h := h1) fun z => ?_
          rw [et1] at z
          rw [z, di0] at this; cases this
        omega
    have P4 := P2.adv mle
    have F4 : CFr n p b h (sI h1 p 2 (iv (i + 1 + 1 + m))) := F2.trans (CFr.pl hp hb)
    by_cases z : m = 0
    · rw [f2 z, if_pos (by decide), if_pos rfl]
      refine k0 (i + 1 + 1) (by rw [← f1, if_pos z]) _ ?_ F4
      rw [z] at P4 ⊢; exact P4
    · obtain ⟨f4, f5⟩ := f3 z
      rw [f4, if_neg f5]
      refine ⟨P4.nd n90, c_limit (P4.nd n90) (show hL (sI h1 p 2 (iv (i + 1 + 1 + m))) (b + 2 + n) 11 = wLo (tG S n 0) (t i - 48) from l2) (show hL (sI h1 p 2 (iv (i + 1 + 1 + m))) (b + 2 + n) 12 = wHi (tG S n 0) (t i - 48) from u2) ?_⟩
      rw [if_neg (by decide)]
      rw [f1] at z
      rw [← f1] at k1
      rw [if_neg (by rw [f1]; exact z)] at k1
      generalize eh : sL (sL (sI h1 p 2 (iv (i + 1 + 1 + m))) (b + 2 + n) 11 (liLo (t (i + 1)) (fg t (i + 1 + 1) m) (wLo (tG S n 0) (t i - 48)))) (b + 2 + n) 12 (liHi (t (i + 1)) (fg t (i + 1 + 1) m) (wHi (tG S n 0) (t i - 48))) = h2
      have F5 : CFr n p b h h2 := by rw [← eh]; exact (F4.trans (CFr.nL (Nat.le_refl _) n90 hp hb)).trans (CFr.nL (Nat.le_refl _) n90 hp hb)
      have C5 : ClT h2 b (tF (tF (tF S n 1 (t i - 48)) n 2 (t (i + 1))) n 3 (fg t (i + 1 + 1) m)) O E := by
        rw [← eh]
        exact ((((C2.pl hp hb).nL hn).nL hn).tF hn (by decide)).tF hn (by decide)
      refine k1 _ _ rfl h2 (P.fr F5 (by rw [← eh]; rw [hI_sL, hI_sL]; exact hI_s) mle) C5 ?_ F5
      have q0 : tG (tF (tF (tF S n 1 (t i - 48)) n 2 (t (i + 1))) n 3 (fg t (i + 1 + 1) m)) n 0 = tG S n 0 := by rw [tG_k (by decide), tG_k (by decide), tG_k (by decide)]
      have q1 : tG (tF (tF (tF S n 1 (t i - 48)) n 2 (t (i + 1))) n 3 (fg t (i + 1 + 1) m)) n 1 = t i - 48 := by rw [tG_tF, if_neg (by omega), tG_tF, if_neg (by omega)]; exact g1
      have q2 : tG (tF (tF (tF S n 1 (t i - 48)) n 2 (t (i + 1))) n 3 (fg t (i + 1 + 1) m)) n 2 = t (i + 1) := by rw [tG_tF, if_neg (by omega), tG_tF, if_pos ⟨rfl, rfl⟩]
      have q3 : tG (tF (tF (tF S n 1 (t i - 48)) n 2 (t (i + 1))) n 3 (fg t (i + 1 + 1) m)) n 3 = fg t (i + 1 + 1) m := by rw [tG_tF, if_pos ⟨rfl, rfl⟩]
      have t0 : ¬ t (i + 1) = 0 := fun z => by rw [z] at q; revert q; decide
      unfold NdD wdT loT hiT
      rw [q0, q1, q2, q3, if_neg k12, if_neg k10, if_pos hz, if_neg k12, if_neg k10, if_pos hz, if_neg k12, if_neg k10, if_pos hz, if_neg t0, if_neg t0]
      refine ⟨?_, fun z => (dpf z).elim, ?_, ?_, ?_⟩
      · rw [← eh, hI_sL, hI_sL, hI_ne (by omega)]; exact w2
      · rw [← eh, hL_o (by omega)]; exact hL_s
      · rw [← eh]; exact hL_s
      · rw [← eh, hL_o (by omega), hL_o (by omega)]; exact m2
  by_cases e1 : t (i + 1) = 60
  · rw [if_pos e1]; exact lim32 (Or.inl e1) _
  rw [if_neg e1]
  by_cases e2 : t (i + 1) = 62
  · rw [if_pos e2]; exact lim32 (Or.inr (Or.inl e2)) _
  rw [if_neg e2]
  by_cases e3 : t (i + 1) = 61
  · rw [if_pos e3]; exact lim32 (Or.inr (Or.inr e3)) _
  rw [if_neg e3, if_neg (by decide)]
  have ql : pLim t (i + 1) n (tF S n 1 (t i - 48)) = (i + 1, some (tF S n 1 (t i - 48))) := by
    unfold pLim; rw [if_neg (fun q => by rcases q with q | q | q; exact e1 q; exact e2 q; exact e3 q)]
  rw [ql] at k1
  refine k1 _ _ rfl h1 P2 C2 ?_ F2
  unfold NdD wdT loT hiT
  rw [g0, g1, g2, if_neg k12, if_neg k10, if_pos hz, if_neg k12, if_neg k10, if_pos hz, if_neg k12, if_neg k10, if_pos hz, if_pos rfl, if_pos rfl]
  exact ⟨w2, fun z => (dpf z).elim, l2, u2, m2⟩
end PAR
