theorem nm_tab : ∀ e, e < 256 → nm (iv e) = true → ¬ iv e - 97 = -1 := by decide +kernel
theorem nm_ne {c : Int32} (hc : Sgn c) (h : nm c = true) : ¬ c - 97 = -1 := by
  obtain ⟨e, he, rfl⟩ := hc
  exact nm_tab e he h
theorem nm_of {c : Int32} (h1 : ¬ c < 97) (h2 : ¬ 108 < c) : nm c = true := by unfold nm; rw [decide_eq_false h1, decide_eq_false h2]; rfl
theorem nm_no {c : Int32} (h : c < 97 ∨ 108 < c) : nm c = false := by
  unfold nm
  rcases h with h | h
  · rw [decide_eq_true h]; rfl
  · rw [decide_eq_true h]; simp
theorem ClT.dropE {h : Hp} {b x : Nat} {S : Tb} {O E : List Nat} (C : ClT h b S O (x :: E)) (hx : ∀ q, S.2.2 x = q + 1 → ¬ tG S q 0 = 63) : ClT h b S O E := by
  obtain ⟨c1, c3, c4, c5, c6, c7⟩ := C
  refine ⟨c1, c3, c4, c5, c6, fun k hk hE q e e2 => ?_⟩
  by_cases z : k = x
  · rw [z] at e; exact absurd e2 (hx q e)
  · exact c7 k hk (fun w => by rcases List.mem_cons.mp w with w | w; exact z w; exact hE w) q e e2
theorem ClT.setE {h : Hp} {b x : Nat} {S : Tb} {O E : List Nat} {v : Int32} (C : ClT h b S O (x :: E)) (hv : tG S x 6 = v) : ClT (sI h (b + 2 + x) 3 v) b S O E := by
  obtain ⟨⟨c1, c2⟩, c3, c4, c5, c6, c7⟩ := C
  refine ⟨⟨by rw [hI_ne (by omega)]; exact c1, c2⟩, fun k hk => ?_, fun k hk hO => ?_, fun q hq => ⟨(c5 q hq).1, (c5 q hq).2.1, (c5 q hq).2.2.mono fun _ _ => rfl⟩, c6, fun k hk hE q e e2 => ?_⟩
  · obtain ⟨n1, n2, n3⟩ := c3 k hk
    exact ⟨by rw [hI_o (by omega)]; exact n1, by rw [hI_o (by omega)]; exact n2, n3⟩
  · exact (c4 k hk hO).mono (fun j hj => hI_o (by omega)) rfl fun _ _ => rfl
  · by_cases z : k = x
    · rw [z, hI_s, hv]
    · rw [hI_o (by omega)]
      exact c7 k hk (fun w => by rcases List.mem_cons.mp w with w | w; exact z w; exact hE w) q e e2
section REC
variable {p b N : Nat} {t : Nat → Int32}
/-- the contract of passType, with R levels left -/
def RecC (p b N : Nat) (t : Nat → Int32) (D0 R : Nat) : Prop := ∀ (D : Nat) (K : Nat → Hp → Prop) (h : Hp) (i par : Nat) (own cs inh : Int32) (S : Tb) (O E : List Nat), D0 ≤ D → Pst h p b i N t → ClT h b S O E → WfP S → par ≤ S.1 → S.1 ≤ i →
  (∀ j, pT t R i par own cs inh S = (j, none) → ∀ h', Pst h' p b j N t → CFr S.1 p b h h' → K 0 h') →
  (∀ j S', pT t R i par own cs inh S = (j, some S') → ∀ h', Pst h' p b j N t → ClT h' b S' (S.1 :: O) (S.1 :: E) → NdD h' b S' S.1 → CFr S.1 p b h h' → K (b + 2 + S.1) h') → Ca D m_Pa_passType [.ref p, .ref (rfN b par), .int inh, .int (iv (6 - R))] h (QR K)
theorem c_part {D0 R D : Nat} (hr : RecC p b N t D0 R) (hR : R ≤ 5) (hD : D0 ≤ D) {K : Nat → Hp → Prop} {h : Hp} {i n : Nat} {own cs inh : Int32} {S : Tb} {O E : List Nat} (P : Pst h p b i N t) (C : ClT h b S O E) (W : WfP S) (hn : n < S.1) (hu : S.1 ≤ i)
    (k0 : ∀ j, pT t R i (n + 1) own cs inh S = (j, none) → ∀ h', Pst h' p b j N t → CFr S.1 p b h h' → K 0 h')
    (k1 : ∀ j S', pT t R i (n + 1) own cs inh S = (j, some S') → ∀ h', Pst h' p b j N t → ClT h' b S' O (S.1 :: E) → CFr S.1 p b h h' → K (b + 2 + S.1) h') : Ca (D + 1) m_Pa_passPart [.ref p, .ref (b + 2 + n), .int inh, .int (iv (5 - R))] h (QR K) := by
  refine w_Pa_passPart ⟨P.1.1.1, ?_⟩
  rw [iv1, iv_add, show 5 - R + 1 = 6 - R by omega]
  refine hr D _ h i (n + 1) own cs inh S O E hD P C W hn hu (fun j e h' P' F => ?_) fun j S' e h' P' C' D' F => ?_
  · rw [if_pos rfl]; exact k0 j e h' P' F
  · rw [if_neg (by omega)]
    have n90 : n < 90 := by have := C.1.2; omega
    obtain ⟨q1, q2⟩ := ch_T R _ _ _ _ _ _ _ _ e
    have up := (up_T R _ _ _ _ _ _ _ _ e).2
    refine ⟨P'.nd n90, c_addPart P' C' D' (fun z => ?_) q2 hn (fun k h1 h2 z => ?_) fun h2 P2 C2 F2 => k1 j S' e h2 P2 C2 (F.trans (F2.weak (by omega)))⟩
    · have := (C.2.2.2.2.1 _ z).1; omega
    · have := up k h1 h2; omega
theorem c_fields {D0 R D : Nat} (hr : RecC p b N t D0 R) (hR : R ≤ 4) (hD : D0 ≤ D) {K : Int32 → Hp → Prop} {h0 : Hp} {n : Nat} {O E : List Nat} {o : Rp}
    (k0 : ∀ j, o = (j, none) → ∀ h', Pst h' p b j N t → CFr (n + 1) p b h0 h' → K 0 h')
    (k1 : ∀ j S', o = (j, some S') → ∀ h', Pst h' p b j N t → ClT h' b S' O E → CFr (n + 1) p b h0 h' → K 1 h') : ∀ (k kk : Nat) (h : Hp) (i : Nat) (S : Tb), kk + k = 90 → Pst h p b i N t → ClT h b S O E → WfP S → n < S.1 → tG S n 0 = 123 → S.1 ≤ i → CFr (n + 1) p b h0 h → pFields t (pT t R) R n k i S = o →
    Wp (D + 3) m_Pa_passFields 2 [some (.ref p), some (.ref (b + 2 + n)), some (.int (iv (5 - R))), some (.int (iv kk))] [] h (QI K)
  | 0, kk, h, i, S, hkk, P, C, W, hn, hc, hu, F, e => by
    refine w_Pa_passFields_2 ?_
    rw [if_neg (show ¬ iv kk < 90 from fun q => by have := (iv_lt (b := 90) (by omega) (by omega)).mp q; omega)]
    exact k0 i e.symm h P F
  | k + 1, kk, h, i, S, hkk, P, C, W, hn, hc, hu, F, e => by
    have hp := P.1.2.2.2
    have hb := P.2.2.2.2
    have et : tx h N = t := P.2.1
    have N90 := P.1.n90
    have sg : ∀ i, Sgn (t i) := fun i => by rw [← et]; exact sgn_tx h N i
    unfold pFields at e
    refine w_Pa_passFields_2 ?_
    rw [if_pos (show iv kk < 90 from (iv_lt (b := 90) (by omega) (by omega)).mpr (by omega))]
    refine ⟨P.1.1.1, c_passSign P.1 (by decide) (fun a => ?_) fun a hi => ?_⟩
    · rw [et] at a
      rw [if_pos rfl]
      rw [if_neg a] at e
      by_cases r0 : R = 0
      · rw [if_neg (show ¬ iv (5 - R) < 5 from fun q => by have := (iv_lt (b := 5) (by omega) (by omega)).mp q; omega)]
        rw [if_pos (Or.inl r0)] at e
        exact k0 i e.symm h P F
      rw [if_pos (show iv (5 - R) < 5 from (iv_lt (b := 5) (by omega) (by omega)).mpr (by omega))]
      refine ⟨P.1.1.1, w_Pa_passField ⟨P.1.1.1, c_passName P.1 (fun a2 => ?_) fun a1 a2 hi => ?_⟩⟩
      · rw [et] at a2
        rw [if_pos rfl, if_pos rfl]
        rw [if_pos (Or.inr (nm_no a2))] at e
        exact k0 i e.symm h P F
      · rw [et] at a1 a2 ⊢
        have nt := nm_of a1 a2
        rw [if_neg (nm_ne (sg i) nt)]
        rw [if_neg (fun q => by rcases q with q | q; exact r0 q; rw [nt] at q; cases q)] at e
        have P1 := P.adv (show i + 1 ≤ N from hi)
        have F1 : CFr (n + 1) p b h0 (sI h p 2 (iv (i + 1))) := F.trans (CFr.pl hp hb)
        have C1 : ClT (sI h p 2 (iv (i + 1))) b S O E := C.pl hp hb
        refine ⟨P1.1.1.1, c_passSign P1.1 (by decide) (fun b1 => ?_) fun b1 hi2 => ?_⟩
        · rw [P1.2.1] at b1
          rw [if_pos rfl, if_pos rfl]
          rw [if_pos b1] at e
          exact k0 _ e.symm _ P1 F1
        · rw [P1.2.1] at b1
          rw [if_neg (by decide), sI_sI]
          rw [if_neg (fun q => q b1)] at e
          have P2 := P.adv (show i + 1 + 1 ≤ N from hi2)
          have F2 : CFr (n + 1) p b h0 (sI h p 2 (iv (i + 1 + 1))) := F.trans (CFr.pl hp hb)
          refine ⟨P2.1.1.1, c_part hr (by omega) hD (own := t i - 97) (cs := -1) P2 (C.pl hp hb) W hn (by omega) (fun j e2 h' P' F' => ?_) fun j S' e2 h' P' C' F' => ?_⟩
          · rw [if_pos rfl, if_pos rfl]
            rw [show i + 1 + 1 = i + 2 from rfl] at e2
            rw [e2] at e
            exact k0 j e.symm h' P' (F2.trans (F'.weak hn))
          · rw [if_neg (by omega)]
            rw [show i + 1 + 1 = i + 2 from rfl] at e2
            have K2 := kp_T R _ _ _ _ _ _ _ _ e2
            have W2 := wf_T R _ _ _ _ _ _ W hn _ _ e2
            have U2 := (up_T R _ _ _ _ _ _ _ _ e2).1 (by omega)
            obtain ⟨q1, q2⟩ := ch_T R _ _ _ _ _ _ _ _ e2
            rw [e2] at e
            replace e : (if ¬ t j = 59 then (j, none) else pFields t (pT t R) R n k (j + 1) S') = o := e
            have F3 := F2.trans (F'.weak hn)
            have c2 : tG S' n 0 = 123 := by rw [(K2.2.2 n hn).2 0 (Or.inl rfl)]; exact hc
            have C3 : ClT h' b S' O E := C'.dropE fun q z => by
              rw [q2] at z
              have : n = q := by omega
              rw [← this, c2]; decide
            refine ⟨P'.1.1.1, c_passSign P'.1 (by decide) (fun d1 => ?_) fun d1 hj => ?_⟩
            · rw [P'.2.1] at d1
              rw [if_pos rfl, if_pos rfl]
              rw [if_pos d1] at e
              exact k0 _ e.symm _ P' F3
            · rw [P'.2.1] at d1
              rw [if_neg (by decide), if_neg (by decide)]
              rw [if_neg (fun q => q d1)] at e
              rintro _ rfl
              rw [iv1, iv_add]
              exact c_fields hr hR hD k0 k1 k (kk + 1) _ (j + 1) S' (by omega) (P'.adv hj) (C3.pl hp hb) W2 (by omega) c2 (by omega) (F3.trans (CFr.pl hp hb)) e
    · rw [et] at a
      rw [if_neg (by decide)]
      rw [if_pos a] at e
      exact k1 _ _ e.symm _ (P.adv hi) (C.pl hp hb) (F.trans (CFr.pl hp hb))
end REC
