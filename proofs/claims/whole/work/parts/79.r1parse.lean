theorem ClT.root {h : Hp} {b : Nat} {S : Tb} (C : ClT h b S [0] [0]) (D : NdD h b S 0) (hP : S.2.2 0 = 0) : ClT h b S [] [] := by
  obtain ⟨c1, c3, c4, c5, c6, c7⟩ := C
  have ek : ∀ q, kidsD S [] q = kidsD S [0] q := fun q => by
    unfold kidsD
    refine List.filter_congr fun k _ => ?_
    by_cases e : k = 0
    · rw [e, hP]; simp
    · have : ([0] : List Nat).contains k = ([] : List Nat).contains k := by rw [List.contains_cons, beq_false_of_ne e]; rfl
      rw [this]
  refine ⟨c1, c3, fun k hk _ => ?_, fun q hq => by rw [ek]; exact c5 q hq, fun k hk => (nomatch hk), fun k hk _ q e e2 => ?_⟩
  · by_cases e : k = 0
    · rw [e]; exact D
    · exact c4 k hk (by simpa using e)
  · by_cases e0 : k = 0
    · rw [e0, hP] at e; cases e
    · exact c7 k hk (by simpa using e0) q e e2
theorem c_parse {d p b N : Nat} {t : Nat → Int32} {K : Int32 → Hp → Prop} {h : Hp} (P : Pst h p b 0 N t) {F : Nat → Nat → Int32} {G : Nat → Nat} {R : Rp} (hR : pT t 5 0 0 (-1) (-1) (-1) (0, F, G) = R)
    (k0 : (R.2 = none ∨ ¬ R.1 = N) → ∀ h', Pst h' p b R.1 N t → CFr 0 p b h h' → K (iv R.1) h')
    (k1 : ∀ S', R = (N, some S') → ∀ h', Pst h' p b N N t → ClT h' b S' [] [] → CFr 0 p b h h' → K (-2) h') : Ca (d + 30) m_Pa_parse [.ref p] h (QI K) := by
  have hp := P.1.2.2.2
  have hb := P.2.2.2.2
  refine w_Pa_parse ⟨P.1.1.1, ?_⟩
  rw [P.1.1.2.2.1]
  refine ⟨P.2.2.1.1, w_Fo_forgetAll ⟨P.2.2.1.1, ?_⟩⟩
  rintro _ rfl
  have F1 : CFr 0 p b h (sI h b 1 0) := ⟨⟨rfl, rfl, rfl⟩, fun a h1 h2 => ⟨hI_ne (by omega), rfl, rfl, rfl⟩, ⟨rfl, rfl, rfl⟩, fun k hk => absurd hk (Nat.not_lt_zero _)⟩
  have P1 : Pst (sI h b 1 0) p b 0 N t := P.fr F1 (by rw [hI_ne (by omega)]; exact P.1.1.2.2.2) (Nat.zero_le _)
  have C1 : ClT (sI h b 1 0) b (0, F, G) [] [] := ⟨⟨hI_s, Nat.zero_le _⟩, fun k hk => absurd hk (Nat.not_lt_zero _), fun k hk => absurd hk (Nat.not_lt_zero _), fun k hk => absurd hk (Nat.not_lt_zero _), fun k hk => (nomatch hk), fun k hk => absurd hk (Nat.not_lt_zero _)⟩
  refine ⟨P1.1.1.1, ?_⟩
  refine c_T 5 (Nat.le_refl _) (d + 29) _ (sI h b 1 0) 0 0 (-1) (-1) (-1) (0, F, G) [] [] (by omega) P1 C1 (fun k hk => absurd hk (Nat.not_lt_zero _)) (Nat.le_refl _) (Nat.le_refl _) (fun j e h' P' F' => ?_) fun j S' e h' P' C' D' F' => ?_
  · rw [if_pos rfl, if_pos rfl]
    refine ⟨P'.1.1.1, ?_⟩
    rw [P'.1.1.2.2.2]
    rw [e] at hR
    have := k0 (by rw [← hR]; exact Or.inl rfl) h' (by rw [← hR]; exact P') (F1.trans F')
    rw [← hR] at this
    exact this
  · rw [if_neg (by omega)]
    obtain ⟨q1, q2⟩ := ch_T _ _ _ _ _ _ _ _ _ e
    rw [e] at hR
    refine ⟨P'.1.1.1, ?_⟩
    rw [P'.1.1.2.1]
    refine ⟨P'.1.2.2.1.1, ?_⟩
    have N90 := P.1.n90
    have jN := P'.1.2.1
    rw [P'.1.1.2.2.2, P'.1.2.2.1.2.2.2.2.1]
    by_cases c : j = N
    · rw [if_pos (by rw [c]), if_neg (by decide)]
      subst c
      exact k1 S' hR.symm h' P' (C'.root D' q2) (F1.trans F')
    · rw [if_neg (iv_ne (by omega) (by omega) c), if_pos rfl]
      have := k0 (by rw [← hR]; exact Or.inr c) h' (by rw [← hR]; exact P') (F1.trans F')
      rw [← hR] at this
      exact this
/-- the draft's nodes may be others -/
def DrF (db : Nat) (h h' : Hp) : Prop := (hN h ≤ hN h' ∧ hN h' ≤ hN h + 4 ∧ hU h' ≤ hU h + 60) ∧ (∀ a, a < 231 → hS h' a = hS h a) ∧ (∀ a, a < 231 → ¬ (db + 2 ≤ a ∧ a < db + 92) → hR h' a = hR h a)
section DRF
variable {n db cb : Nat} {h h' : Hp}
theorem Fmt.dr {b : Nat} (F : Fmt h b) (hs : ∀ a, a < 231 → hS h' a = hS h a) (hr : hR h' b = hR h b ∧ hR h' (b + 1) = hR h (b + 1)) (hb : b + 92 ≤ 231) : Fmt h' b := by
  obtain ⟨f1, f2, f3, f4⟩ := F
  exact ⟨by rw [hs b (by omega)]; exact f1, by rw [hr.1]; exact f2, by rw [hs _ (by omega)]; exact f3, fun k hk => ⟨by rw [hr.2]; exact (f4 k hk).1, by rw [hs _ (by omega)]; exact (f4 k hk).2⟩⟩
theorem Byt.dr {a r m cap : Nat} (B : Byt h a r m cap) (hs : hS h' a = hS h a ∧ hS h' r = hS h r) (hr : hR h' a = hR h a) (hi : hI h' a 1 = hI h a 1) : Byt h' a r m cap := by
  obtain ⟨b1, b2, b3, b4, b5, b6, b7, b8⟩ := B
  exact ⟨by rw [hs.1]; exact b1, by rw [hr]; exact b2, by rw [hs.2]; exact b3, b4, by rw [hi]; exact b5, b6, b7, b8⟩
theorem Lng.dr {a r m cap : Nat} (B : Lng h a r m cap) (hs : hS h' a = hS h a ∧ hS h' r = hS h r) (hr : hR h' a = hR h a) (hi : hI h' a 1 = hI h a 1) : Lng h' a r m cap := by
  obtain ⟨b1, b2, b3, b4, b5, b6, b7, b8⟩ := B
  exact ⟨by rw [hs.1]; exact b1, by rw [hr]; exact b2, by rw [hs.2]; exact b3, b4, by rw [hi]; exact b5, b6, b7, b8⟩
theorem Inv.dr (I : Inv n db cb h) (D : DrF db h h') (hi : ∀ a, a < 13 → ¬ a = 2 → hI h' a = hI h a) (hl : ∀ a, a < 13 → hL h' a = hL h a) (hm : ∀ j, j = 2 ∨ j = 7 ∨ j = 9 → hI h' 197 j = hI h 197 j) (ha : hI h' 198 = hI h 198 ∧ hI h' 200 = hI h 200 ∧ hL h' 201 = hL h 201) (hf : Flg h') (hc : hI h' 2 7 = 1 → Comp h' cb) : Inv (n + 1) db cb h' := by
  have hd := I.dd
  obtain ⟨⟨i1, i2, i3⟩, ⟨⟨s1, s2, s3, s4⟩, s5, s6, s7⟩, ⟨⟨t, T⟩, ⟨m, M⟩, ⟨v, V⟩, ⟨b, B⟩, ⟨l, L⟩⟩, F, C⟩ := id I
  obtain ⟨⟨d1, d2, d3⟩, d4, d5⟩ := D
  have e4 : ∀ a, a < 13 → hR h' a = hR h a := fun a ha => d5 a (by omega) (by omega)
  have R2 := e4 2 (by decide)
  have sh : Shp h' db cb := by
    refine ⟨⟨by rw [d4 2 (by decide)]; exact s1, by rw [R2]; exact s2, ⟨s3.1.dr d4 ⟨d5 _ (by omega) (by omega), d5 _ (by omega) (by omega)⟩ (by omega), s3.2.dr d4 ⟨d5 _ (by omega) (by omega), d5 _ (by omega) (by omega)⟩ (by omega)⟩, s4⟩, s5.mono fun c h1 h2 => ⟨d5 c (by omega) (by omega), d4 c (by omega)⟩, by rw [d4 229 (by decide)]; exact s6, by rw [d4 230 (by decide)]; exact s7⟩
  refine ⟨⟨by omega, by omega, by omega⟩, sh, ⟨⟨t, T.1.dr ⟨d4 _ (by decide), d4 _ (by decide)⟩ (e4 3 (by decide)) (by rw [hi 3 (by decide) (by decide)]), by rw [hm 2 (Or.inl rfl)]; exact T.2.1, fun i hi' => by rw [hi 4 (by decide) (by decide), ha.1]; exact T.2.2 i hi'⟩,
    ⟨m, M.1.dr ⟨d4 _ (by decide), d4 _ (by decide)⟩ (e4 5 (by decide)) (by rw [hi 5 (by decide) (by decide)]), by rw [hm 7 (Or.inr (Or.inl rfl))]; exact M.2.1, fun i hi' => by rw [hi 6 (by decide) (by decide), ha.2.1]; exact M.2.2 i hi'⟩,
    ⟨v, V.1.dr ⟨d4 _ (by decide), d4 _ (by decide)⟩ (e4 7 (by decide)) (by rw [hi 7 (by decide) (by decide)]), by rw [hm 9 (Or.inr (Or.inr rfl))]; exact V.2.1, fun i hi' => by rw [hl 8 (by decide), ha.2.2]; exact V.2.2 i hi'⟩,
    ⟨b, B.dr ⟨d4 _ (by decide), d4 _ (by decide)⟩ (e4 9 (by decide)) (by rw [hi 9 (by decide) (by decide)])⟩, ⟨l, L.dr ⟨d4 _ (by decide), d4 _ (by decide)⟩ (e4 11 (by decide)) (by rw [hi 11 (by decide) (by decide)])⟩⟩, hf, hc⟩
/-- the text's signs -/
theorem Txt.src {t : Nat} (T : Txt h t) : Src h 0 (tx h t) t := by
  refine ⟨ends_tx T.1.2.2.2.2.2.1, fun i _ => sgn_tx h t i, Or.inl ⟨rfl, T.2.1, fun i hi => ?_⟩⟩
  unfold tx
  rw [if_pos hi]; exact (T.2.2 i hi).symm
/-- a parser over the text, just made -/
theorem pst_new (I : Inv n db cb h) {t : Nat} (T : Txt h t) {p : Nat} (hp : p = hN h) : Pst (sI (sR (sR (hNew h 4 0 3) p 0 3) p 1 db) p 2 0) p db 0 t (tx h t) ∧ (∀ a, ¬ a = p → Sm h (sI (sR (sR (hNew h 4 0 3) p 0 3) p 1 db) p 2 0) a) := by
  subst hp
  have hd := I.dd
  have h231 := I.1.1
  have sm : ∀ a, ¬ a = hN h → Sm h (sI (sR (sR (hNew h 4 0 3) (hN h) 0 3) (hN h) 1 db) (hN h) 2 0) a := fun a ha => (Sm.nw ha).trans ((Sm.sR ha).trans ((Sm.sR ha).trans (Sm.sI ha)))
  refine ⟨⟨⟨⟨?_, ?_, hR_s, hI_s⟩, Nat.zero_le _, T.1.mono (sm 3 (by omega)) (sm 4 (by omega)), h231⟩, ?_, ?_, hd.2.2.1, hd.1⟩, sm⟩
  · rw [hS_sI, hS_sR, hS_sR, hS_nw, if_pos rfl]
  · rw [hR_sI, hR_o (by omega)]; exact hR_s
  · funext i; unfold tx; rw [(sm 4 (by omega)).1]
  · exact I.2.1.1.2.2.1.1.mono fun a h1 h2 => sm a (by omega)
end DRF
