section REC2
variable {p b N : Nat} {t : Nat → Int32}
theorem cas_pl {h : Hp} {i m : Nat} (et : tx h N = t) (hd : ∀ j, j < m → dg t (i + j)) (hi : i ≤ N) : i + m ≤ N := by
  by_cases z : m = 0
  · omega
  · have := di_dg.mpr (hd (m - 1) (by omega))
    have hh : i + (m - 1) < N := by
      refine tx_lt (h := h) fun z => ?_
      rw [et] at z
      rw [z, di0] at this; cases this
    omega
theorem c_cases {D0 R D : Nat} (hr : RecC p b N t D0 R) (hR : R ≤ 4) (hD : D0 ≤ D) {K : Int32 → Hp → Prop} {h0 : Hp} {n : Nat} {O E : List Nat} {o : Rp} {inh : Int32}
    (k0 : ∀ j, o = (j, none) → ∀ h', Pst h' p b j N t → CFr (n + 1) p b h0 h' → K 0 h')
    (k1 : ∀ j S', o = (j, some S') → ∀ h', Pst h' p b j N t → ClT h' b S' O E → CFr (n + 1) p b h0 h' → K 1 h') : ∀ (k kk : Nat) (fi : Bool) (h : Hp) (i : Nat) (S : Tb), kk + k = 90 → fi = decide (kk = 0) → Pst h p b i N t → ClT h b S O E → WfP S → n < S.1 → tG S n 0 = 63 → tG S n 7 = inh → S.1 ≤ i → CFr (n + 1) p b h0 h → pCases t (pT t R) n inh k fi i S = o →
    Wp (D + 3) m_Pa_passCases 2 [some (.ref p), some (.ref (b + 2 + n)), some (.int (iv (5 - R))), some (.int (iv kk))] [] h (QI K)
  | 0, kk, fi, h, i, S, hkk, hfi, P, C, W, hn, hc, h7, hu, F, e => by
    refine w_Pa_passCases_2 ?_
    rw [if_neg (show ¬ iv kk < 90 from fun q => by have := (iv_lt (b := 90) (by omega) (by omega)).mp q; omega)]
    exact k0 i e.symm h P F
  | k + 1, kk, fi, h, i, S, hkk, hfi, P, C, W, hn, hc, h7, hu, F, e => by
    have hp := P.1.2.2.2
    have hb := P.2.2.2.2
    have et : tx h N = t := P.2.1
    have N90 := P.1.n90
    have n90 : n < 90 := by have := C.1.2; omega
    have nin : hI h (b + 2 + n) 2 = inh := by rw [← h7]; exact (C.2.1 n hn).2.1
    unfold pCases at e
    have one : ¬ (fi = false ∧ t i = 125) → Ca (D + 2) m_Pa_passCase [.ref p, .ref (b + 2 + n), .int (iv (5 - R))] h (QI fun v6 h7 => if v6 = 0 then K 0 h7 else ∀ v9 : Int32, v9 = iv kk + 1 → Wp (D + 3) m_Pa_passCases 2 [some (.ref p), some (.ref (b + 2 + n)), some (.int (iv (5 - R))), some (.int v9)] [] h7 (QI K)) := by
      intro ne
      rw [if_neg ne] at e
      refine w_Pa_passCase ⟨P.1.1.1, c_passFigure P.1 fun m hm hd he => ?_⟩
      obtain ⟨f1, f2, f3⟩ := fig_nd hm hd he
      rw [et] at hd f1 f2 f3 ⊢
      have mle := cas_pl et hd P.1.2.1
      have P1 := P.adv mle
      have F1 : CFr (n + 1) p b h0 (sI h p 2 (iv (i + m))) := F.trans (CFr.pl hp hb)
      by_cases z : m = 0
      · rw [f2 z, if_pos (by decide), if_pos rfl]
        rw [← f1, if_pos z] at e
        refine k0 i e.symm _ ?_ F1
        rw [z] at P1 ⊢; exact P1
      · obtain ⟨f4, f5⟩ := f3 z
        rw [f4, if_neg f5]
        rw [← f1, if_neg z] at e
        refine ⟨P1.1.1.1, c_passSign P1.1 (by decide) (fun b1 => ?_) fun b1 hi2 => ?_⟩
        · rw [P1.2.1] at b1
          rw [if_pos rfl, if_pos rfl]
          rw [if_pos b1] at e
          exact k0 _ e.symm _ P1 F1
        · rw [P1.2.1] at b1
          rw [if_neg (by decide), sI_sI]
          rw [if_neg (fun q => q b1)] at e
          have P2 := P.adv (show i + m + 1 ≤ N from hi2)
          have F2 : CFr (n + 1) p b h0 (sI h p 2 (iv (i + m + 1))) := F.trans (CFr.pl hp hb)
          refine ⟨P2.nd n90, P2.1.1.1, ?_⟩
          rw [hI_ne (by omega), nin]
          refine c_part hr (by omega) hD (own := -1) (cs := fg t i m) P2 (C.pl hp hb) W hn (by omega) (fun j e2 h' P' F' => ?_) fun j S' e2 h' P' C' F' => ?_
          · rw [if_pos rfl, if_pos rfl]
            rw [e2] at e
            exact k0 j e.symm h' P' (F2.trans (F'.weak hn))
          · rw [if_neg (by omega)]
            have K2 := kp_T R _ _ _ _ _ _ _ _ e2
            have W2 := wf_T R _ _ _ _ _ _ W hn _ _ e2
            have U2 := (up_T R _ _ _ _ _ _ _ _ e2).1 (by omega)
            obtain ⟨q1, q2⟩ := ch_T R _ _ _ _ _ _ _ _ e2
            obtain ⟨g1, -, -⟩ := cs_T R _ _ _ _ _ _ _ _ e2
            rw [e2] at e
            replace e : (if ¬ t j = 59 then (j, none) else pCases t (pT t R) n inh k false (j + 1) S') = o := e
            have F3 := F2.trans (F'.weak hn)
            have c2 : tG S' n 0 = 63 := by rw [(K2.2.2 n hn).2 0 (Or.inl rfl)]; exact hc
            have c7 : tG S' n 7 = inh := by rw [(K2.2.2 n hn).2 7 (Or.inr (by decide))]; exact h7
            have s90 : S.1 < 90 := by have := P'.1.2.1; omega
            have C3 : ClT (sI h' (b + 2 + S.1) 3 (fg t i m)) b S' O E := C'.setE g1
            refine ⟨P'.nd s90, ?_⟩
            rintro _ rfl
            have F4 : CFr (n + 1) p b h0 (sI h' (b + 2 + S.1) 3 (fg t i m)) := F3.trans (CFr.nI (by omega) s90 hp hb)
            have P4 : Pst (sI h' (b + 2 + S.1) 3 (fg t i m)) p b j N t := P'.fr (m := 0) (CFr.nI (Nat.zero_le _) s90 hp hb) (by rw [hI_ne (by omega)]; exact P'.1.1.2.2.2) P'.1.2.1
            refine ⟨P'.1.1.1, c_passSign P4.1 (by decide) (fun d1 => ?_) fun d1 hj => ?_⟩
            · rw [P4.2.1] at d1
              rw [if_pos (by rfl)]
              rw [if_pos d1] at e
              exact k0 _ e.symm _ P4 F4
            · rw [P4.2.1] at d1
              rw [if_neg (by decide)]
              rw [if_neg (fun q => q d1)] at e
              rintro _ rfl
              rw [iv1, iv_add]
              exact c_cases hr hR hD k0 k1 k (kk + 1) false _ (j + 1) S' (by omega) (by simp) (P4.adv hj) (C3.pl hp hb) W2 (by omega) c2 c7 (by omega) (F4.trans (CFr.pl hp hb)) e
    refine w_Pa_passCases_2 ?_
    rw [if_pos (show iv kk < 90 from (iv_lt (b := 90) (by omega) (by omega)).mpr (by omega))]
    by_cases k00 : kk = 0
    · rw [if_neg (show ¬ 0 < iv kk from fun q => by have := (iv_lt (a := 0) (by omega) (by omega)).mp q; omega)]
      exact ⟨P.1.1.1, one (fun q => by rw [hfi, decide_eq_true k00] at q; cases q.1)⟩
    · rw [if_pos (show 0 < iv kk from (iv_lt (a := 0) (by omega) (by omega)).mpr (by omega))]
      rw [decide_eq_false k00] at hfi
      refine ⟨P.1.1.1, c_passSign P.1 (by decide) (fun a => ?_) fun a hi => ?_⟩
      · rw [et] at a
        rw [if_pos rfl]
        exact ⟨P.1.1.1, one (fun q => a q.2)⟩
      · rw [et] at a
        rw [if_neg (by decide)]
        rw [if_pos ⟨hfi, a⟩] at e
        exact k1 _ _ e.symm _ (P.adv hi) (C.pl hp hb) (F.trans (CFr.pl hp hb))
/-- numbers of a node just begun -/
def NdZ (h : Hp) (a : Nat) : Prop := hI h a 1 = 0 ∧ hL h a 11 = 0 ∧ hL h a 12 = 0 ∧ hL h a 14 = 0
theorem NdZ.nd {h : Hp} {b n : Nat} {S : Tb} (Z : NdZ h (b + 2 + n)) (h1 : ¬ tG S n 0 = 102) (h2 : ¬ tG S n 0 = 100) (h3 : sz (tG S n 0) = false) (h4 : dp (tG S n 0) = true → hI h (b + 2 + n) 4 = tG S n 4) : NdD h b S n := by
  obtain ⟨z1, z2, z3, z4⟩ := Z
  unfold NdD wdT loT hiT
  rw [if_neg h1, if_neg h2, h3, if_neg h1, if_neg h2, if_neg h1, if_neg h2]
  exact ⟨z1, h4, z2, z3, z4⟩
theorem NdZ.fr {h h' : Hp} {b n m p : Nat} (Z : NdZ h (b + 2 + n)) (F : CFr m p b h h') (hn : n < m) (h9 : n < 90) : NdZ h' (b + 2 + n) := by
  obtain ⟨e1, e2⟩ := F.2.2.2 n hn h9
  unfold NdZ; rw [e1, e2]; exact Z
theorem c_tail {D0 R D : Nat} (hr : RecC p b N t D0 R) (hR : R ≤ 4) (hD : D0 ≤ D) {K : Int32 → Hp → Prop} {h : Hp} {i n : Nat} {c inh : Int32} {S : Tb} {O E : List Nat} (P : Pst h p b i N t) (C : ClT h b S O E) (W : WfP S) (hnO : n ∈ O) (hSn : S.1 = n + 1) (hu : S.1 ≤ i) (Z : NdZ h (b + 2 + n)) (hl0 : tG S n 2 = 0) (hc : tG S n 0 = c) (h7 : tG S n 7 = inh) (hcc : sz c = true ∨ sm c = true ∨ c = 123 ∨ dp c = true)
    (k0 : ∀ j, pTail t (pT t R) R c n inh i S = (j, none) → ∀ h', Pst h' p b j N t → CFr n p b h h' → K 0 h')
    (k1 : ∀ j S', pTail t (pT t R) R c n inh i S = (j, some S') → ∀ h', Pst h' p b j N t → ClT h' b S' O E → NdD h' b S' n → CFr n p b h h' → K 1 h') : Ca (D + 4) m_Pa_passTail [.ref p, .ref (b + 2 + n), .int (iv (5 - R))] h (QI K) := by
  have hp := P.1.2.2.2
  have hb := P.2.2.2.2
  have et : tx h N = t := P.2.1
  have N90 := P.1.n90
  have n90 : n < 90 := by have := C.1.2; omega
  have hn : n < S.1 := by omega
  have kd : hI h (b + 2 + n) 0 = c := by rw [← hc]; exact (C.2.1 n hn).1
  have sg : ∀ i, Sgn (t i) := fun i => by rw [← et]; exact sgn_tx h N i
  -- the name behind the sign
  have key : ∀ (d : Nat) (K2 : Int32 → Hp → Prop), (nm (t i) = false → ∀ h', Pst h' p b i N t → CFr n p b h h' → K2 0 h') → (nm (t i) = true → ∀ h', Pst h' p b (i + 1) N t → ClT h' b (tF S n 4 (t i - 97)) O E → NdZ h' (b + 2 + n) → hI h' (b + 2 + n) 4 = t i - 97 → hI h' (b + 2 + n) 2 = inh → CFr n p b h h' → K2 1 h') → Ca (d + 2) m_Pa_passKey [.ref p, .ref (b + 2 + n)] h (QI K2) := by
    intro d K2 q0 q1
    refine w_Pa_passKey ⟨P.1.1.1, c_passName P.1 (fun a => ?_) fun a1 a2 hi => ?_⟩
    · rw [et] at a
      refine ⟨P.nd n90, ?_⟩
      rintro _ rfl
      rw [hI_s, if_pos rfl]
      exact q0 (nm_no a) _ (P.fr (m := 0) (CFr.nI (Nat.zero_le _) n90 hp hb) (by rw [hI_ne (by omega)]; exact P.1.1.2.2.2) P.1.2.1) (CFr.nI (Nat.le_refl _) n90 hp hb)
    · rw [et] at a1 a2 ⊢
      have nt := nm_of a1 a2
      have P1 := P.adv (show i + 1 ≤ N from hi)
      refine ⟨P1.nd n90, ?_⟩
      rintro _ rfl
      rw [hI_s, if_neg (nm_ne (sg i) nt)]
      refine q1 nt _ (P1.fr (m := 0) (CFr.nI (Nat.zero_le _) n90 hp hb) (by rw [hI_ne (by omega)]; exact hI_s) hi) (((C.pl hp hb).nI hnO (Or.inr rfl)).tF hnO (by decide)) ?_ hI_s ?_ ((CFr.pl hp hb).trans (CFr.nI (Nat.le_refl _) n90 hp hb))
      · obtain ⟨z1, z2, z3, z4⟩ := Z
        exact ⟨by rw [hI_o (by omega), hI_ne (by omega)]; exact z1, z2, z3, z4⟩
      · rw [hI_o (by omega), hI_ne (by omega)]; exact (C.2.1 n hn).2.1.trans h7
  have many : (c = 42 ∨ c = 47) → Ca (D + 3) m_Pa_passKey [.ref p, .ref (b + 2 + n)] h (QI fun v3 h4 => if v3 = 0 then K (0 : Int32) h4 else ((hS h4 (b + 2 + n)).1 = 2 ∧ ((hS h4 p).1 = 4 ∧ Ca (D + 3) m_Pa_passPart [.ref p, .ref (b + 2 + n), .int (hI h4 (b + 2 + n) 2), .int (iv (5 - R))] h4 (QR (fun v8 h9 => (if v8 = 0 then K (0 : Int32) h9 else K (1 : Int32) h9)))))) := by
    intro c1
    have e : pTail t (pT t R) R c n inh i S = if nm (t i) = false then (i, none) else pT t R (i + 1) (n + 1) (-1) (-1) inh (tF S n 4 (t i - 97)) := by unfold pTail; rw [if_pos c1]
    rw [e] at k0 k1
    refine key (D + 1) _ (fun a h' P' F' => ?_) fun a h' P' C' Z' e4 e2 F' => ?_
    · rw [if_pos rfl]
      exact k0 i (if_pos a) h' P' F'
    · rw [if_neg (by decide)]
      rw [if_neg (by rw [a]; decide)] at k0 k1
      refine ⟨P'.nd n90, P'.1.1.1, ?_⟩
      rw [e2]
      refine c_part hr (by omega) (show D0 ≤ D + 2 by omega) (own := -1) (cs := -1) P' C' W (show n < S.1 from hn) (show S.1 ≤ i + 1 by omega) (fun j e2 h2 P2 F2 => ?_) fun j S' e2 h2 P2 C2 F2 => ?_
      · rw [if_pos rfl]
        exact k0 j e2 h2 P2 (F'.trans (F2.weak (by show n ≤ S.1; omega)))
      · rw [if_neg (by omega)]
        have K2 := kp_T R _ _ _ _ _ _ _ _ e2
        obtain ⟨q1, q2⟩ := ch_T R _ _ _ _ _ _ _ _ e2
        have g0 : tG S' n 0 = c := by rw [(K2.2.2 n hn).2 0 (Or.inl rfl), tG_k (by decide)]; exact hc
        have g4 : tG S' n 4 = t i - 97 := by rw [K2.2.1 n hn 4, tG_tF, if_pos ⟨rfl, rfl⟩]
        refine k1 j S' e2 h2 P2 (C2.dropE fun q z => ?_) ((Z'.fr F2 hn n90).nd ?_ ?_ ?_ fun _ => ?_) (F'.trans (F2.weak (by show n ≤ S.1; omega)))
        · rw [show (tF S n 4 (t i - 97)).1 = S.1 from rfl] at q2 z
          rw [q2] at z
          have : n = q := by omega
          rw [← this, g0]
          rcases c1 with rfl | rfl <;> decide
        · rw [g0]; rcases c1 with rfl | rfl <;> decide
        · rw [g0]; rcases c1 with rfl | rfl <;> decide
        · rw [g0]; rcases c1 with rfl | rfl <;> rfl
        · rw [(F2.2.2.2 n hn n90).1, g4]; exact e4
  have float : ∀ w : Int32, (c = 102 ∧ w = 4) ∨ (c = 100 ∧ w = 8) → Ca (D + 3) m_No_widenTo [.ref (b + 2 + n), .int w] h (QV fun h34 => K (1 : Int32) h34) := by
    intro w hw
    have e : pTail t (pT t R) R c n inh i S = (i, some S) := by
      unfold pTail
      rcases hw with ⟨rfl, _⟩ | ⟨rfl, _⟩ <;> rfl
    refine c_widen (kd := c) (P.nd n90) kd ?_
    have F1 : CFr n p b h (sL (sL (sI h (b + 2 + n) 1 w) (b + 2 + n) 11 (wLo c w)) (b + 2 + n) 12 (wHi c w)) := ((CFr.nI (Nat.le_refl _) n90 hp hb).trans (CFr.nL (Nat.le_refl _) n90 hp hb)).trans (CFr.nL (Nat.le_refl _) n90 hp hb)
    refine k1 i S e _ (P.fr F1 (by rw [hI_sL, hI_sL, hI_ne (by omega)]; exact P.1.1.2.2.2) P.1.2.1) (((C.nI hnO (Or.inl rfl)).nL hnO).nL hnO) ?_ F1
    unfold NdD wdT loT hiT
    rw [hc]
    refine ⟨?_, fun q => ?_, ?_, ?_, ?_⟩
    · rw [hI_sL, hI_sL, hI_s]
      rcases hw with ⟨rfl, rfl⟩ | ⟨rfl, rfl⟩ <;> rfl
    · rcases hw with ⟨rfl, _⟩ | ⟨rfl, _⟩ <;> cases q
    · rw [hL_o (by omega), hL_s]
      rcases hw with ⟨rfl, rfl⟩ | ⟨rfl, rfl⟩ <;> rfl
    · rw [hL_s]
      rcases hw with ⟨rfl, rfl⟩ | ⟨rfl, rfl⟩ <;> rfl
    · rw [hL_o (by omega), hL_o (by omega)]; exact Z.2.2.2
  have plain : (c = 114 ∨ c = 122) → K (1 : Int32) h := by
    intro c1
    have e : pTail t (pT t R) R c n inh i S = (i, some S) := by
      unfold pTail
      rcases c1 with rfl | rfl <;> rfl
    refine k1 i S e h P C (Z.nd ?_ ?_ ?_ fun q => ?_) (CFr.refl n p b h)
    · rw [hc]; rcases c1 with rfl | rfl <;> decide
    · rw [hc]; rcases c1 with rfl | rfl <;> decide
    · rw [hc]; rcases c1 with rfl | rfl <;> rfl
    · rw [hc] at q; rcases c1 with rfl | rfl <;> cases q
  refine w_Pa_passTail ⟨P.nd n90, ?_⟩
  rw [kd]
  simp only [ti (k := 42) (z := 42) rfl, ti (k := 47) (z := 47) rfl, ti (k := 63) (z := 63) rfl, ti (k := 100) (z := 100) rfl, ti (k := 102) (z := 102) rfl, ti (k := 112) (z := 112) rfl, ti (k := 114) (z := 114) rfl, ti (k := 122) (z := 122) rfl, ti (k := 123) (z := 123) rfl]
  by_cases c1 : c = 42
  · rw [if_pos c1]; exact ⟨P.1.1.1, many (Or.inl c1)⟩
  rw [if_neg c1]
  by_cases c2 : c = 47
  · rw [if_pos c2]; exact ⟨P.1.1.1, many (Or.inr c2)⟩
  rw [if_neg c2]
  by_cases c3 : c = 63
  · rw [if_pos c3]
    have e : pTail t (pT t R) R c n inh i S = if nm (t i) = false then (i, none) else if ¬ t (i + 1) = 123 then (i + 1, none) else pCases t (pT t R) n inh 90 true (i + 2) (tF S n 4 (t i - 97)) := by
      unfold pTail; rw [if_neg (fun q => by rcases q with q | q; exact c1 q; exact c2 q), if_pos c3]
    rw [e] at k0 k1
    refine ⟨P.1.1.1, key (D + 1) _ (fun a h' P' F' => ?_) fun a h' P' C' Z' e4 e2 F' => ?_⟩
    · rw [if_pos rfl]
      exact k0 i (if_pos a) h' P' F'
    · rw [if_neg (by decide)]
      rw [if_neg (by rw [a]; decide)] at k0 k1
      refine ⟨P'.1.1.1, c_passSign P'.1 (by decide) (fun b1 => ?_) fun b1 hi => ?_⟩
      · rw [P'.2.1] at b1
        rw [if_pos rfl]
        exact k0 _ (if_pos b1) h' P' F'
      · rw [P'.2.1] at b1
        rw [if_neg (by decide)]
        rw [if_neg (fun q => q b1)] at k0 k1
        have P2 := P'.adv (show i + 1 + 1 ≤ N from hi)
        have F2 : CFr n p b h (sI h' p 2 (iv (i + 1 + 1))) := F'.trans (CFr.pl hp hb)
        refine ⟨P2.1.1.1, w_Pa_passCases ?_⟩
        refine c_cases hr hR hD (h0 := sI h' p 2 (iv (i + 1 + 1))) (O := O) (E := E) (inh := inh) (fun j e3 h3 P3 F3 => ?_) (fun j S' e3 h3 P3 C3 F3 => ?_) 90 0 true _ (i + 2) (tF S n 4 (t i - 97)) rfl rfl P2 (C'.pl hp hb) W hn (by rw [tG_k (by decide)]; exact hc.trans c3) (by rw [tG_7 (by decide)]; exact h7) (by show S.1 ≤ i + 2; omega) (CFr.refl _ _ _ _) rfl
        · rw [if_pos rfl]
          exact k0 j e3 h3 P3 (F2.trans (F3.weak (Nat.le_succ _)))
        · rw [if_neg (by decide)]
          have K2 := kp_cases (t := t) (kp_T R) (n := n) (m := n + 1) (inh := inh) 90 true (i + 2) (tF S n 4 (t i - 97)) (by show n + 1 ≤ S.1; omega) _ _ e3
          have g0 : tG S' n 0 = 63 := by rw [(K2.2.2 n hn).2 0 (Or.inl rfl), tG_k (by decide)]; exact hc.trans c3
          have g4 : tG S' n 4 = t i - 97 := by rw [K2.2.1 n (Nat.lt_succ_self _) 4, tG_tF, if_pos ⟨rfl, rfl⟩]
          have Z2 : NdZ (sI h' p 2 (iv (i + 1 + 1))) (b + 2 + n) := by
            obtain ⟨z1, z2, z3, z4⟩ := Z'
            exact ⟨by rw [hI_ne (by omega)]; exact z1, z2, z3, z4⟩
          refine k1 j S' e3 h3 P3 C3 ((Z2.fr F3 (Nat.lt_succ_self _) n90).nd ?_ ?_ ?_ fun _ => ?_) (F2.trans (F3.weak (Nat.le_succ _)))
          · rw [g0]; decide
          · rw [g0]; decide
          · rw [g0]; rfl
          · rw [(F3.2.2.2 n (Nat.lt_succ_self _) n90).1, g4, hI_ne (by omega)]; exact e4
  rw [if_neg c3]
  by_cases c4 : c = 100
  · rw [if_pos c4]; exact float 8 (Or.inr ⟨c4, rfl⟩)
  rw [if_neg c4]
  by_cases c5 : c = 102
  · rw [if_pos c5]; exact float 4 (Or.inl ⟨c5, rfl⟩)
  rw [if_neg c5]
  have nd12 : ¬ (c = 42 ∨ c = 47) := fun q => by rcases q with q | q; exact c1 q; exact c2 q
  by_cases c6 : c = 112
  · rw [if_pos c6]
    have e : pTail t (pT t R) R c n inh i S = pSz t 7 i n S := by
      unfold pTail; rw [if_neg nd12, if_neg c3, if_neg (by rw [c6]; decide), if_pos c6]
    rw [e] at k0 k1
    exact ⟨P.1.1.1, c_sz P C hnO (by rw [hc, c6]; rfl) hl0 Z.2.2.2 k0 k1⟩
  rw [if_neg c6]
  by_cases c7 : c = 114
  · rw [if_pos c7]; exact plain (Or.inl c7)
  rw [if_neg c7]
  by_cases c8 : c = 122
  · rw [if_pos c8]; exact plain (Or.inr c8)
  rw [if_neg c8]
  by_cases c9 : c = 123
  · rw [if_pos c9]
    have e : pTail t (pT t R) R c n inh i S = pFields t (pT t R) R n 90 i S := by
      unfold pTail; rw [if_neg nd12, if_neg c3, if_pos c9]
    rw [e] at k0 k1
    refine ⟨P.1.1.1, w_Pa_passFields ?_⟩
    refine c_fields hr hR hD (h0 := h) (O := O) (E := E) (fun j e3 h3 P3 F3 => ?_) (fun j S' e3 h3 P3 C3 F3 => ?_) 90 0 h i S rfl P C W hn (hc.trans c9) hu (CFr.refl _ _ _ _) rfl
    · exact and1 (k0 j e3 h3 P3 (F3.weak (Nat.le_succ _))) (Or.inl rfl)
    · have K2 := kp_fields (t := t) (kp_T R) (R := R) (n := n) (m := n + 1) 90 i S (by omega) _ _ e3
      have g0 : tG S' n 0 = 123 := by rw [(K2.2.2 n hn).2 0 (Or.inl rfl)]; exact hc.trans c9
      refine and1 (k1 j S' e3 h3 P3 C3 ((Z.fr F3 (Nat.lt_succ_self _) n90).nd ?_ ?_ ?_ fun q => ?_) (F3.weak (Nat.le_succ _))) (Or.inr rfl)
      · rw [g0]; decide
      · rw [g0]; decide
      · rw [g0]; rfl
      · rw [g0] at q; cases q
  rw [if_neg c9]
  have sm0 : sm c = false := by unfold sm; rw [decide_eq_false c5, decide_eq_false c4, decide_eq_false c8, decide_eq_false c7]; rfl
  have hz : sz c = true := by
    rcases hcc with q | q | q | q
    · exact q
    · rw [sm0] at q; cases q
    · exact absurd q c9
    · unfold dp at q
      rw [decide_eq_false c1, decide_eq_false c2, decide_eq_false c3] at q; cases q
  have e : pTail t (pT t R) R c n inh i S = pSz t 4 i n S := by
    unfold pTail; rw [if_neg nd12, if_neg c3, if_neg c9, if_neg c6, if_neg (by rw [sm0]; decide)]
  rw [e] at k0 k1
  exact ⟨P.1.1.1, c_sz P C hnO (by rw [hc]; exact hz) hl0 Z.2.2.2 k0 k1⟩
theorem c_T : ∀ R, R ≤ 5 → RecC p b N t (4 + 5 * R) R
  | 0, _ => by
    intro D K h i par own cs inh S O E hD P C W hpar hu k0 k1
    obtain ⟨d, rfl⟩ : ∃ d, D = d + 1 := ⟨D - 1, by omega⟩
    refine w_Pa_passType ⟨P.1.1.1, by rw [P.1.1.2.1]; exact P.1.2.2.1.1, c_at P.1 ?_⟩
    rw [if_pos (by decide)]
    exact k0 i rfl h P (CFr.refl _ _ _ _)
  | R + 1, hR => by
    intro D K h i par own cs inh S O E hD P C W hpar hu k0 k1
    obtain ⟨d, rfl⟩ : ∃ d, D = d + 5 := ⟨D - 5, by omega⟩
    have hp := P.1.2.2.2
    have hb := P.2.2.2.2
    have et : tx h N = t := P.2.1
    have N90 := P.1.n90
    refine w_Pa_passType ⟨P.1.1.1, by rw [P.1.1.2.1]; exact P.1.2.2.1.1, c_at P.1 ?_⟩
    rw [et, if_neg (show ¬ 5 < iv (6 - (R + 1)) from fun q => by have := (iv_lt (a := 5) (by omega) (by omega)).mp q; omega)]
    refine c_beginsType ?_
    have e5 : decide (iv (6 - (R + 1)) < 5) = !decide (R = 0) := by
      by_cases z : R = 0
      · rw [decide_eq_true z]
        exact decide_eq_false fun q => by have := (iv_lt (b := 5) (by omega) (by omega)).mp q; omega
      · rw [decide_eq_false z]
        exact decide_eq_true ((iv_lt (b := 5) (by omega) (by omega)).mpr (by omega))
    rw [e5, show 6 - (R + 1) = 5 - R by omega]
    unfold pT at k0 k1
    by_cases g : (sz (t i) || sm (t i) || decide (t i = 123) || (dp (t i) && !decide (R = 0))) = true
    · rw [if_pos g] at k0 k1 ⊢
      rw [if_neg (by decide)]
      have hi : i < N := tx_lt (h := h) fun q => by
        rw [et] at q
        rw [q] at g; revert g; cases (decide (R = 0)) <;> decide
      have h90 : S.1 < 90 := by omega
      refine ⟨P.1.1.1, by rw [P.1.1.2.2.1]; exact P.2.2.1.1, ?_⟩
      rw [P.1.1.2.2.1]
      refine c_fresh P.2.2.1 C.1.1 h90 fun h' Nn b1 o hRb hSe hNe hUe => ?_
      rw [if_neg (by omega)]
      have F1 : CFr S.1 p b h h' := by
        refine ⟨⟨hSe, hNe, hUe⟩, fun a a1 a2 => ?_, ⟨(o p (by omega) (by omega)).2.2.1, funext hRb, (o (b + 1) (by omega) (by omega)).2.2.1⟩, fun q q1 q2 => ?_⟩
        · have := o a (by omega) (by omega); exact ⟨this.1, this.2.1, this.2.2.1, this.2.2.2.1⟩
        · have := o (b + 2 + q) (by omega) (by omega); exact ⟨this.1, this.2.1⟩
      have P1 : Pst h' p b i N t := P.fr F1 (by rw [(o p (by omega) (by omega)).1]; exact P.1.1.2.2.2) P.1.2.1
      have C1 : ClT h' b (tB S (t i) own cs inh par) (S.1 :: O) (S.1 :: E) := C.fresh W hpar h90 Nn b1 o
      refine ⟨P1.1.1.1, ?_⟩
      rintro _ rfl
      rw [P1.1.1.2.2.2, iv1, iv_add]
      have P2 := P1.adv (show i + 1 ≤ N from hi)
      have F2 : CFr S.1 p b h (sI h' p 2 (iv (i + 1))) := F1.trans (CFr.pl hp hb)
      have Z : NdZ (sI h' p 2 (iv (i + 1))) (b + 2 + S.1) := by
        obtain ⟨⟨n1, n2, n3, n4, n5⟩, ⟨r1, r2, r3, r4, r5, r6⟩, l1, l2, l3, l4, l5⟩ := Nn
        exact ⟨by rw [hI_ne (by omega)]; exact n2, l1, l2, l4⟩
      refine c_tail (c_T R (by omega)) (by omega) (show 4 + 5 * R ≤ d by omega) (c := t i) (inh := inh) (n := S.1) P2 (C1.pl hp hb) (W.tB hpar) (List.mem_cons_self ..) rfl (show S.1 + 1 ≤ i + 1 by omega) Z (by rw [tG_tB]; simp) (by rw [tG_tB]; simp) (by rw [tG_tB]; simp) ?_ (fun j e h2 Q2 G2 => ?_) fun j S' e h2 Q2 C2 D2 G2 => ?_
      · simp only [Bool.or_eq_true, Bool.and_eq_true, decide_eq_true_iff] at g
        rcases g with ((g | g) | g) | g
        · exact Or.inl g
        · exact Or.inr (Or.inl g)
        · exact Or.inr (Or.inr (Or.inl g))
        · exact Or.inr (Or.inr (Or.inr g.1))
      · rw [if_pos rfl]; exact k0 j e h2 Q2 (F2.trans G2)
      · rw [if_neg (by decide)]; exact k1 j S' e h2 Q2 C2 D2 (F2.trans G2)
    · rw [if_neg g] at k0 ⊢
      rw [if_pos rfl]
      exact k0 i rfl h P (CFr.refl _ _ _ _)
end REC2
