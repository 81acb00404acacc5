section FLT
variable {d n db cb : Nat} {h : Hp}
/-- what the parse and the scan leave, together -/
theorem cfr_dr {p : Nat} {h0 h1 h2 : Hp} (hp : p = hN h0) (h231 : 231 ≤ p) (hd : db + 92 ≤ 197) (sm : ∀ a, ¬ a = p → Sm h0 h1 a) (hN1 : hN h1 = hN h0 + 1) (hU1 : hU h1 = hU h0 + 3) (F : CFr 0 p db h1 h2) : DrF db h0 h2 := by
  obtain ⟨⟨x1, x2, x3⟩, x5, ⟨x6, x7, x8⟩, x9⟩ := F
  refine ⟨⟨by omega, by omega, by omega⟩, fun a ha => by rw [x1]; exact (sm a (by omega)).2.2.2.2, fun a ha hb => ?_⟩
  rw [← (sm a (by omega)).2.2.1]
  by_cases e1 : a = db
  · rw [e1, x7]
  · by_cases e2 : a = db + 1
    · rw [e2, x8]
    · exact (x5 a (by omega) (by omega)).2.2.1
theorem op_fault (I : Inv n db cb h) (hn : n ≤ 600) : Ca (d + 40) m_Ff_fault [.ref 2] h (QI fun v h1 => (Mid h h1 ∧ (hS h1 197).1 = 8) ∧ Ca (d + 40) m_Mo_fault [.ref 197] h1 (QI fun b h2 => Res2 n h v b h2)) := by
  have hd := I.dd
  have i1 := I.1
  obtain ⟨-, i4, ⟨⟨t, T⟩, ⟨m, M⟩, ⟨v, V⟩, ⟨b, B⟩, ⟨l, W⟩⟩, F, C⟩ := id I
  refine w_Ff_fault ⟨room_of (by rw [cN_]; omega) (by rw [cU_]; omega), ?_⟩
  rintro p hp _ rfl
  have h2e : (hS (hNew h 4 0 3) 2) = hS h 2 := by rw [hS_nw, if_neg (by omega)]
  have r0 : hR (hNew h 4 0 3) 2 0 = 3 := by rw [hR_nwne (by omega)]; exact i4.1.2.1.1
  have r5 : hR (hNew h 4 0 3) 2 5 = db := by rw [hR_nwne (by omega)]; exact i4.1.2.1.2.2.2.2.2.1
  rw [r0, r5]
  refine ⟨by rw [h2e]; exact I.s2, by rw [hp, hS_nw, if_pos rfl], w_Pa_init ⟨by omega, by rw [hp, hS_nw, if_pos rfl], ?_⟩⟩
  rintro _ rfl _ rfl _ rfl
  obtain ⟨P, sm⟩ := pst_new I T hp
  refine ⟨P.1.1.1, ?_⟩
  generalize eh1 : sI (sR (sR (hNew h 4 0 3) p 0 3) p 1 db) p 2 0 = h1 at P sm ⊢
  have hN1 : hN h1 = hN h + 1 := by rw [← eh1]; rfl
  have hU1 : hU h1 = hU h + 3 := by rw [← eh1]; rfl
  have h231 : 231 ≤ p := by omega
  -- what the class's part leaves to the Model
  have mid : ∀ h2, CFr 0 p db h1 h2 → (∀ a, a < 231 → ¬ (db ≤ a ∧ a < db + 92) → Sm h h2 a) ∧ DrF db h h2 ∧ (∀ a, a < 231 → hS h2 a = hS h a) := by
    intro h2 F2
    have D := cfr_dr hp h231 hd.1 sm hN1 hU1 F2
    refine ⟨fun a ha hb => (sm a (by omega)).trans ?_, D, D.2.1⟩
    have := F2.2.1 a (by omega) hb
    exact ⟨this.1, this.2.1, this.2.2.1, this.2.2.2, by rw [F2.1.1]⟩
  have fin : ∀ h2 h3, CFr 0 p db h1 h2 → MFr (sI h2 197 0 0) h3 → ∀ v, Res2 n h v v h3 := by
    intro h2 h3 F2 F3 v
    obtain ⟨s2, D, hS2⟩ := mid h2 F2
    obtain ⟨⟨m1, m2, m3, m4, m5, m6⟩, m7, m8⟩ := F3
    have eI : ∀ a, ¬ a = 197 → ¬ (202 ≤ a ∧ a ≤ 216) → hI h3 a = hI h2 a := fun a q1 q2 => by rw [m7 a q1 q2, hI_ne q1]
    have e7 : ∀ j, ¬ j = 23 → ¬ j = 28 → ¬ j = 0 → hI h3 197 j = hI h 197 j := fun j q1 q2 q3 => by rw [m8 j q1 q2, hI_o (by omega), (s2 197 (by decide) (by omega)).1]
    have D3 : DrF db h h3 := ⟨by rw [m5, m6]; exact D.1, fun a ha => by rw [m4]; exact D.2.1 a ha, fun a ha hb => by rw [m2]; exact D.2.2 a ha hb⟩
    have lo : ∀ a, a < 13 → Sm h h2 a := fun a ha => s2 a (by omega) (by omega)
    refine ⟨⟨by rw [m4]; exact hS2 1 (by decide), by rw [eI 1 (by decide) (by omega)]; exact (lo 1 (by decide)).1⟩, ⟨db, cb, I.dr D3 (fun a ha _ => by rw [eI a (by omega) (by omega)]; exact (lo a ha).1) (fun a ha => by rw [m1]; exact (lo a ha).2.1) (fun j hj => e7 j (by omega) (by omega) (by omega)) ⟨?_, ?_, ?_⟩ ?_ fun hc => ?_⟩, rfl⟩
    · rw [eI 198 (by decide) (by omega)]; exact (s2 198 (by decide) (by omega)).1
    · rw [eI 200 (by decide) (by omega)]; exact (s2 200 (by decide) (by omega)).1
    · rw [m1]; exact (s2 201 (by decide) (by omega)).2.1
    · exact F.mono (by rw [eI 2 (by decide) (by omega)]; exact (lo 2 (by decide)).1) (e7 5 (by decide) (by decide) (by decide)) (e7 10 (by decide) (by decide) (by decide)) (e7 11 (by decide) (by decide) (by decide))
    · rw [eI 2 (by decide) (by omega), (lo 2 (by decide)).1] at hc
      have dj := i4.1.2.2.2
      refine (C hc).mono (by rw [eI 199 (by decide) (by omega)]; exact (s2 199 (by decide) (by omega)).1) (e7 4 (by decide) (by decide) (by decide)) ?_ fun k hk => ⟨?_, ?_, fun j _ => ?_⟩
      · rw [eI cb (by omega) (by omega), (s2 cb (by omega) (by omega)).1]
      · rw [eI _ (by omega) (by omega)]; exact (s2 _ (by omega) (by omega)).1
      · rw [m2]; exact (s2 _ (by omega) (by omega)).2.2.1
      · rw [m1]; show hL h2 _ j = _; rw [(s2 _ (by omega) (by omega)).2.1]
  have mod : ∀ h2, CFr 0 p db h1 h2 → (Mid h h2 ∧ (hS h2 197).1 = 8) ∧ ShM (sI h2 197 0 0) ∧ Src (sI h2 197 0 0) 0 (tx h t) t ∧ (∀ k j, j < 7 → hI (sI h2 197 0 0) (202 + j) k = hI h (202 + j) k) := by
    intro h2 F2
    obtain ⟨s2, D, hS2⟩ := mid h2 F2
    have M2 : ShM h2 := I.M.mono fun c h1 h2 => ⟨(s2 c (by omega) (by omega)).2.2.1, hS2 c (by omega)⟩
    refine ⟨⟨⟨hS2 1 (by decide), (s2 1 (by decide) (by omega)).1⟩, M2.1⟩, M2, ?_, fun k j hj => by rw [hI_ne (by omega), (s2 _ (by omega) (by omega)).1]⟩
    obtain ⟨a1, a2, a3⟩ := T.src
    refine ⟨a1, a2, Or.inl ⟨rfl, ?_, fun i hi => ?_⟩⟩
    · rw [hI_o (by omega), (s2 197 (by decide) (by omega)).1]; exact T.2.1
    · rw [hI_ne (by decide), (s2 198 (by decide) (by omega)).1]
      have := a3
      rcases this with ⟨-, -, q⟩ | ⟨q, -, -⟩
      · exact q i hi
      · exact absurd q (by decide)
  refine c_parse (d := d + 9) P (F := sF0 h) (G := fun _ => 0) rfl (fun e h2 P2 F2 => ?_) fun S' e h2 P2 C2 F2 => ?_
  all_goals
    obtain ⟨q1, q2, q3, q4⟩ := mod h2 F2
    refine ⟨q1, w_Mo_fault ⟨q1.2, ?_⟩⟩
    rintro _ rfl
  · refine c_scan (d := d + 35) q2 q3 (R := pT (tx h t) 5 0 0 (-1) (-1) (-1) (0, sF0 h, fun _ => 0)) ?_ (fun _ _ g' F' => fin h2 g' F2 F' _) fun S' e2 _ _ g' T' F' => ?_
    · rw [sF0_eq q4]
    · rw [e2] at e
      rcases e with e | e
      · cases e
      · exact absurd rfl e
  · refine c_scan (d := d + 35) q2 q3 (R := pT (tx h t) 5 0 0 (-1) (-1) (-1) (0, sF0 h, fun _ => 0)) ?_ (fun e2 _ g' F' => ?_) fun S' e2 _ _ g' T' F' => fin h2 g' F2 F' _
    · rw [sF0_eq q4]
    · rw [e] at e2
      rcases e2 with e2 | e2
      · cases e2
      · exact absurd rfl e2
end FLT
