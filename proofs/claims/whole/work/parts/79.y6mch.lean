/-! entering a node, going on -/
section MCG
variable {d t n : Nat} {S : Tb} {g : Hp}
theorem iv_dec {t : Nat} : iv (t + 1) - 1 = iv t := by rw [iv1, iv_sub (by omega), Nat.add_sub_cancel]
theorem m_ent {K : Hp → Prop} (T : TabM g S) (A : Sa g S S.1) (hn : n < S.1) (h8 : t < 8) (ht : hI g 197 39 = iv t) (hf : hI g 197 41 = 0)
    (k0 : tG S n 0 = 123 → K (pshG g t n (hdI (kids S n)) 0))
    (k1 : ∀ m, dp (tG S n 0) = true → mnt S n = m + 1 → ¬ tG S n 0 = 63 → hL g 222 m < 0 → K (pshG (sI g 197 41 3) t n (hdI (kids S n)) (hL g 222 m)))
    (k2 : ∀ m, dp (tG S n 0) = true → mnt S n = m + 1 → ¬ tG S n 0 = 63 → ¬ hL g 222 m < 0 → K (pshG g t n (hdI (kids S n)) (hL g 222 m)))
    (k3 : ∀ m, tG S n 0 = 63 → mnt S n = m + 1 → fC S (hL g 222 m) (kids S n) = none → K (pshG (sI g 197 41 3) t n (-1) (hL g 222 m)))
    (k4 : ∀ m k, tG S n 0 = 63 → mnt S n = m + 1 → fC S (hL g 222 m) (kids S n) = some k → K (pshG g t n (iv k) (hL g 222 m)))
    (hm : dp (tG S n 0) = true → ∃ m, mnt S n = m + 1 ∧ m < S.1) (ku : ¬ tG S n 0 = 123 → ¬ dp (tG S n 0) = true → Ca d m_Mo_unit [.ref 197, .int (iv n)] g (QV K)) : Ca (d + 1) m_Mo_enter [.ref 197, .int (iv n)] g (QV K) := by
  have M := T.1
  have u90 := T.2.2.1
  have an : ainr (iv n) 90 = true := ainr_iv (by omega) (by omega)
  have cn : (iv n).toNatClampNeg = n := iv_clamp (by omega)
  have kd : hI g 202 n = tG S n 0 := T.kd (by omega)
  have fl : hI g 221 n = lkI (fld S n) := A.2 n hn
  have ch : hI g 210 n = hdI (kids S n) := (T.2.2.2.2.2 n hn).1
  have p37 : (tG S n 0 = 123 ∨ dp (tG S n 0) = true) → Wp (d + 1) m_Mo_enter 37 [some (.ref 197), some (.int (iv n)), some (.int (tG S n 0)), none, none, none] [] g (QV K) := by
    intro hk
    refine w_Mo_enter_37 ?_
    have not97 : ∀ {x : Int32} {v : Int64} {g : Hp}, ¬ tG S n 0 = 63 → Wp (d + 1) m_Mo_enter 133 [some (.ref 197), some (.int (iv n)), some (.int (tG S n 0)), some (.long v), none, some (.int x)] [] g (QV K) → Wp (d + 1) m_Mo_enter 97 [some (.ref 197), some (.int (iv n)), some (.int (tG S n 0)), some (.long v), none, some (.int x)] [] g (QV K) := fun c k => by
      refine w_Mo_enter_97 ?_
      rw [if_neg c]; exact k
    by_cases c : tG S n 0 = 123
    · have ndp : ¬ dp (tG S n 0) = true := fun z => by rw [c] at z; cases z
      have fz : fld S n = 0 := if_neg ndp
      rw [fz] at fl
      have l0 : lkI 0 < 0 := by decide
      have go : (hS g 197).1 = 8 ∧ (hS g (hR g 197 20)).1 = 20 ∧ ainr (iv n) (hS g (hR g 197 20)).2 = true ∧ ∀ v : Int32, v = hI g (hR g 197 20) (iv n).toNatClampNeg → Wp (d + 1) m_Mo_enter 97 [some (.ref 197), some (.int (iv n)), some (.int (tG S n 0)), some (.long 0), none, some (.int v)] [] g (QV K) := by
        simp only [hR_sI, hS_sI, M.o, M.r20, M.s210, true_and, an, cn, forall_eq, ch]
        exact not97 (by rw [c]; decide) (m_133 M h8 ht (fun q => by rw [c] at q; exact absurd q.1 (by decide)) (k0 c))
      rw [c] at go ⊢
      simp only [hR_sI, hS_sI, M.o, M.r33, M.s221, true_and, an, cn, fl, if_pos l0]
      rw [if_neg (by decide), if_neg (by decide)]
      rw [cn] at go
      exact w_Mo_wrong (by rw [if_pos rfl]; exact go)
    · have p := hk.resolve_left c
      obtain ⟨m, em, hm1⟩ := hm p
      have fz : fld S n = m + 1 := by unfold fld; rw [if_pos p]; exact em
      rw [fz] at fl
      have fl : hI g 221 n = iv m := fl
      have am : ainr (iv m) 90 = true := ainr_iv (by omega) (by omega)
      have cm : (iv m).toNatClampNeg = m := iv_clamp (by omega)
      have ln : ¬ iv m < 0 := iv_neg (by omega)
      simp only [hR_sI, hS_sI, M.o, M.r33, M.s221, M.r34, M.s222, true_and, an, cn, fl, if_neg ln, am, cm, forall_eq]
      have wr1 : ¬ tG S n 0 = 63 → hL g 222 m < 0 → Ca d m_Mo_wrong [.ref 197, .int 1] g (QV fun h43 => (hS h43 197).1 = 8 ∧ (hS h43 (hR h43 197 20)).1 = 20 ∧ ainr (iv n) (hS h43 (hR h43 197 20)).2 = true ∧ ∀ v48 : Int32, v48 = hI h43 (hR h43 197 20) (iv n).toNatClampNeg → Wp (d + 1) m_Mo_enter 97 [some (.ref 197), some (.int (iv n)), some (.int (tG S n 0)), some (.long (hL g 222 m)), none, some (.int v48)] [] h43 (QV K)) := by
        intro c63 neg
        refine w_Mo_wrong ?_
        rw [if_neg (by decide)]
        refine ⟨M.o, ?_⟩
        rw [if_pos hf]
        rintro _ rfl
        have ch' : hI (sI g 197 41 3) 210 n = hdI (kids S n) := by rw [hI_o (by omega)]; exact ch
        simp only [hR_sI, hS_sI, M.o, M.r20, M.s210, true_and, an, cn, forall_eq, ch']
        exact not97 c63 (m_133 (M.same rfl rfl) h8 (by rw [hI_o (by omega)]; exact ht) (fun q => c63 q.1) (k1 m p em c63 neg))
      have wr0 : (tG S n 0 = 63 ∨ ¬ hL g 222 m < 0) → Ca d m_Mo_wrong [.ref 197, .int 0] g (QV fun h43 => (hS h43 197).1 = 8 ∧ (hS h43 (hR h43 197 20)).1 = 20 ∧ ainr (iv n) (hS h43 (hR h43 197 20)).2 = true ∧ ∀ v48 : Int32, v48 = hI h43 (hR h43 197 20) (iv n).toNatClampNeg → Wp (d + 1) m_Mo_enter 97 [some (.ref 197), some (.int (iv n)), some (.int (tG S n 0)), some (.long (hL g 222 m)), none, some (.int v48)] [] h43 (QV K)) := by
        intro neg
        refine w_Mo_wrong ?_
        rw [if_pos rfl]
        simp only [hR_sI, hS_sI, M.o, M.r20, M.s210, true_and, an, cn, forall_eq, ch]
        by_cases c63 : tG S n 0 = 63
        · rw [c63]
          refine m_97 T hn (kids S n) [] rfl ?_
          cases ef : fC S (hL g 222 m) (kids S n) with
          | none => exact m_133b M h8 ht hf ⟨rfl, by show (-1 : Int32) < 0; decide⟩ (k3 m c63 em ef)
          | some k =>
            have k1 := (kids_mem.mp (fC_mem ef)).1
            exact m_133 M h8 ht (fun q => absurd q.2 (iv_neg (by omega))) (k4 m k c63 em ef)
        · exact not97 c63 (m_133 M h8 ht (fun q => c63 q.1) (k2 m p em c63 (neg.resolve_left c63)))
      simp only [cn, forall_eq] at wr0 wr1
      by_cases c42 : tG S n 0 = 42
      · rw [if_pos c42]
        by_cases neg : hL g 222 m < 0
        · rw [if_pos neg]; exact wr1 (by rw [c42]; decide) neg
        · rw [if_neg neg]; exact wr0 (Or.inr neg)
      · rw [if_neg c42]
        by_cases c47 : tG S n 0 = 47
        · rw [if_pos c47]
          by_cases neg : hL g 222 m < 0
          · rw [if_pos neg]; exact wr1 (by rw [c47]; decide) neg
          · rw [if_neg neg]; exact wr0 (Or.inr neg)
        · rw [if_neg c47]
          have c63 : tG S n 0 = 63 := by
            unfold dp at p
            simp only [Bool.or_eq_true, decide_eq_true_eq] at p
            rcases p with (p | p) | p
            · exact absurd p c42
            · exact absurd p c47
            · exact p
          exact wr0 (Or.inl c63)
  refine w_Mo_enter ?_
  simp only [hR_sI, hS_sI, M.o, M.r12, M.s202, true_and, an, cn, forall_eq, kd]
  by_cases c : tG S n 0 = 123
  · rw [if_pos c]; exact p37 (Or.inl c)
  rw [if_neg c]
  by_cases c42 : tG S n 0 = 42
  · rw [if_pos c42]; exact p37 (Or.inr (by rw [c42]; rfl))
  rw [if_neg c42]
  by_cases c47 : tG S n 0 = 47
  · rw [if_pos c47]; exact p37 (Or.inr (by rw [c47]; rfl))
  rw [if_neg c47]
  by_cases c63 : tG S n 0 = 63
  · rw [if_pos c63]; exact p37 (Or.inr (by rw [c63]; rfl))
  rw [if_neg c63]
  exact ku c (fun z => by
    unfold dp at z
    rw [decide_eq_false c42, decide_eq_false c47, decide_eq_false c63] at z; cases z)
theorem m_on {K : Hp → Prop} {x : Int32} {v : Int64} {p : Int32} (T : TabM g S) (hn : n < S.1) (h8 : t < 8) (ht : hI g 197 39 = iv (t + 1)) (F : Frm g t n x v p)
    (k1 : tG S n 0 = 123 → x < 0 → Ca d m_Mo_rest [.ref 197] g (QV fun g' => (hS g' 197).1 = 8 ∧ ∀ h : Hp, h = sI g' 197 39 (hI g' 197 39 - 1) → K h))
    (k2 : tG S n 0 = 123 → ∀ k, k < S.1 → x = iv k → Ca d m_Mo_enter [.ref 197, .int (iv k)] (sI g 224 t (hI g 211 k)) (QV K))
    (k3 : tG S n 0 = 42 → v - 1 < 0 → K (sI (sL g 225 t (v - 1)) 197 39 (iv t)))
    (k4 : tG S n 0 = 42 → ¬ v - 1 < 0 → Ca d m_Mo_enter [.ref 197, .int (hdI (kids S n))] (sL g 225 t (v - 1)) (QV K))
    (k5 : tG S n 0 = 47 → (hI g 197 42 - p).toInt64 < v → Ca d m_Mo_enter [.ref 197, .int (hdI (kids S n))] g (QV K))
    (k6 : tG S n 0 = 47 → ¬ (hI g 197 42 - p).toInt64 < v → v < (hI g 197 42 - p).toInt64 → hI g 197 41 = 0 → K (sI (sI g 197 41 3) 197 39 (iv t)))
    (k7 : tG S n 0 = 47 → ¬ (hI g 197 42 - p).toInt64 < v → ¬ v < (hI g 197 42 - p).toInt64 → K (sI g 197 39 (iv t)))
    (k8 : tG S n 0 = 63 → x < 0 → K (sI g 197 39 (iv t)))
    (k9 : tG S n 0 = 63 → ∀ k, k < S.1 → x = iv k → Ca d m_Mo_enter [.ref 197, .int (iv k)] (sI g 224 t (-1)) (QV K))
    (hk : tG S n 0 = 123 ∨ dp (tG S n 0) = true) (hx : x < 0 ∨ ∃ k, k < S.1 ∧ x = iv k) (hf : hI g 197 41 = 0) : Ca (d + 1) m_Mo_goOn [.ref 197] g (QV K) := by
  have M := T.1
  have u90 := T.2.2.1
  obtain ⟨f1, f2, f3, f4⟩ := F
  have an : ainr (iv n) 90 = true := ainr_iv (by omega) (by omega)
  have cn : (iv n).toNatClampNeg = n := iv_clamp (by omega)
  have a8 : ainr (iv t) 8 = true := ainr_iv (by omega) h8
  have c8 : (iv t).toNatClampNeg = t := iv_clamp (by omega)
  have kd : hI g 202 n = tG S n 0 := T.kd (by omega)
  have ch : hI g 210 n = hdI (kids S n) := (T.2.2.2.2.2 n hn).1
  refine w_Mo_goOn ?_
  simp only [hR_sI, hS_sI, M.o, M.r35, M.s223, M.r12, M.s202, true_and, forall_eq, ht, iv_dec, a8, c8, f1, an, cn, kd]
  by_cases c : tG S n 0 = 123
  · rw [if_pos c]
    simp only [hR_sI, hS_sI, M.o, M.r36, M.s224, M.r21, M.s211, true_and, f2, a8, c8, forall_eq]
    rcases hx with hx | ⟨k, hk1, rfl⟩
    · rw [if_pos hx]
      have := k1 c hx
      simp only [forall_eq] at this
      exact this
    · have ak : ainr (iv k) 90 = true := ainr_iv (by omega) (by omega)
      have ck : (iv k).toNatClampNeg = k := iv_clamp (by omega)
      rw [if_neg (iv_neg (by omega))]
      simp only [true_and, ak, ck, forall_eq]
      exact ⟨by decide, k2 c k hk1 rfl⟩
  rw [if_neg c]
  have pp := hk.resolve_left c
  by_cases c42 : tG S n 0 = 42
  · rw [if_pos c42]
    have l1 : ∀ w, hL (sL g 225 t w) 225 t = w := fun _ => hL_s
    have o1 : hI (sL g 225 t (v - 1)) 197 39 = iv (t + 1) := ht
    simp only [hR_sI, hS_sI, M.o, M.r37, M.s225, M.r20, M.s210, true_and, hR_sL, f3, l1, o1, iv_dec, a8, c8, an, cn, forall_eq]
    refine ⟨by decide, ?_⟩
    by_cases q : v - 1 < 0
    · rw [if_pos q]; exact k3 c42 q
    · rw [if_neg q]
      rw [show hI (sL g 225 t (v - 1)) 210 n = hdI (kids S n) from ch]
      exact k4 c42 q
  rw [if_neg c42]
  by_cases c47 : tG S n 0 = 47
  · rw [if_pos c47]
    simp only [hR_sI, hS_sI, M.o, M.r37, M.s225, M.r38, M.s226, M.r20, M.s210, true_and, f3, f4, ch, a8, c8, an, cn, forall_eq]
    by_cases q : (hI g 197 42 - p).toInt64 < v
    · rw [if_pos q]; exact k5 c47 q
    · rw [if_neg q]
      by_cases r : v < (hI g 197 42 - p).toInt64
      · rw [if_pos r]
        refine w_Mo_wrong ?_
        rw [if_neg (by decide)]
        refine ⟨M.o, ?_⟩
        rw [if_pos hf]
        rintro _ rfl
        have := k6 c47 q r hf
        refine ⟨M.o, ?_⟩
        rw [hI_o (by omega), ht, iv_dec]; exact this
      · rw [if_neg r]
        refine w_Mo_wrong ?_
        rw [if_pos rfl]
        refine ⟨M.o, ?_⟩
        rw [ht, iv_dec]; exact k7 c47 q r
  rw [if_neg c47]
  have c63 : tG S n 0 = 63 := by
    unfold dp at pp
    simp only [Bool.or_eq_true, decide_eq_true_eq] at pp
    rcases pp with (pp | pp) | pp
    · exact absurd pp c42
    · exact absurd pp c47
    · exact pp
  simp only [hR_sI, hS_sI, M.o, M.r36, M.s224, true_and, f2, a8, c8, forall_eq]
  rcases hx with hx | ⟨k, hk1, rfl⟩
  · rw [if_pos hx]; exact k8 c63 hx
  · rw [if_neg (iv_neg (by omega))]
    exact ⟨by decide, k9 c63 k hk1 rfl⟩
end MCG
