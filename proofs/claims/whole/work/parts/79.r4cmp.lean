section CMP4
variable {d n db cb : Nat} {h : Hp}
/-- how the class's compile ends -/
def CEnd (db cb N : Nat) (R : Rp) (h : Hp) (v : Int32) (h1 : Hp) : Prop := CFm db h h1 ∧ ((v = 1 ∧ (R.2 = none ∨ ¬ R.1 = N)) ∨ (v = 2 ∧ ∃ S, R = (N, some S) ∧ TW S ∧ ¬ Snd_ S) ∨ (v = 0 ∧ ∃ S, R = (N, some S) ∧ TW S ∧ Snd_ S ∧ CpT h1 db S ∧ hL h1 229 0 = (iv (me S 0).2).toInt64)) ∧ (¬ v = 0 → hI h1 2 7 = 0 ∧ hR h1 2 5 = db ∧ hR h1 2 6 = cb) ∧ (v = 0 → hI h1 2 7 = 1 ∧ hR h1 2 5 = cb ∧ hR h1 2 6 = db)
/-- between the class's steps: the draft apart all is as it was, nothing is compiled -/
def Mdc (db : Nat) (h h2 : Hp) : Prop := (∀ a, a < 231 → ¬ (db ≤ a ∧ a < db + 92) → ¬ a = 2 → Sm h h2 a) ∧ (∀ a, a < 231 → hS h2 a = hS h a) ∧ hI h2 2 7 = 0 ∧ (∀ j, ¬ j = 7 → hI h2 2 j = hI h 2 j) ∧ hR h2 2 = hR h 2 ∧ hL h2 2 = hL h 2 ∧ hN h2 = hN h + 1 ∧ hU h2 = hU h + 3 ∧ Fmt h2 db
theorem Txt.sgn {N : Nat} (i : Nat) : Sgn (tx h N i) := sgn_tx h N i
theorem cls_compile (I : Inv n db cb h) (hn : n ≤ 600) {N : Nat} (T : Txt h N) {F : Nat → Nat → Int32} {G : Nat → Nat} {R : Rp} (hpT : pT (tx h N) 5 0 0 (-1) (-1) (-1) (0, F, G) = R) : Ca (d + 40) m_La_compile [.ref 2, .ref 229] h (QI (CEnd db cb N R h)) := by
  have hd := I.dd
  have i1 := I.1
  have i4 := I.2.1
  have N90 : N ≤ 90 := T.1.2.2.2.2.2.1
  have rN := I.1.1
  refine w_La_compile ⟨I.s2, w_Ff_compile ⟨I.s2, ?_⟩⟩
  rintro _ rfl
  refine ⟨room_of (show hN h < _ by rw [cN_]; omega) (show hU h + 3 ≤ _ by rw [cU_]; omega), ?_⟩
  rintro p hp _ rfl
  have hp : p = hN h := hp
  have I' : Byt h 3 4 N 90 := T.1
  generalize eh0 : sI h 2 7 0 = h0 at *
  have sm0 : ∀ a, ¬ a = 2 → Sm h h0 a := fun a ha => by rw [← eh0]; exact Sm.sI ha
  have hN0 : hN h0 = hN h := by rw [← eh0]; rfl
  have hU0 : hU h0 = hU h := by rw [← eh0]; rfl
  have hS0 : hS h0 = hS h := by rw [← eh0]; rfl
  have hR0 : hR h0 = hR h := by rw [← eh0]; rfl
  have hL0 : hL h0 = hL h := by rw [← eh0]; rfl
  have z7 : hI h0 2 7 = 0 := by rw [← eh0]; exact hI_s
  have z2 : ∀ j, ¬ j = 7 → hI h0 2 j = hI h 2 j := fun j hj => by rw [← eh0]; exact hI_o (by omega)
  have D0 : ∀ a, hD h0 a = hD h a := fun a => by rw [← eh0]; rfl
  clear eh0
  have sn : ∀ a, a < 231 → Sm h0 (hNew h0 4 0 3) a := fun a ha => Sm.nw (by omega)
  have r0 : hR (hNew h0 4 0 3) 2 0 = 3 := by rw [(sn 2 (by decide)).2.2.1, hR0]; exact i4.1.2.1.1
  have r5 : hR (hNew h0 4 0 3) 2 5 = db := by rw [(sn 2 (by decide)).2.2.1, hR0]; exact i4.1.2.1.2.2.2.2.2.1
  rw [r0, r5]
  have p4 : (hS (hNew h0 4 0 3) p).1 = 4 := by rw [hp, hS_nw, if_pos rfl]
  refine ⟨by rw [(sn 2 (by decide)).2.2.2.2, hS0]; exact I.s2, p4, w_Pa_init ⟨by omega, p4, ?_⟩⟩
  rintro _ rfl _ rfl _ rfl
  -- the parser stands
  generalize eh1 : sI (sR (sR (hNew h0 4 0 3) p 0 3) p 1 db) p 2 0 = h1
  have sm1 : ∀ a, ¬ a = p → Sm h0 h1 a := fun a ha => by
    rw [← eh1]; exact (Sm.nw (by omega)).trans ((Sm.sR ha).trans ((Sm.sR ha).trans (Sm.sI ha)))
  have sm01 : ∀ a, a < 231 → ¬ a = 2 → Sm h h1 a := fun a h1 h2 => (sm0 a h2).trans (sm1 a (by omega))
  have P : Pst h1 p db 0 N (tx h N) := by
    refine ⟨⟨⟨by rw [← eh1]; exact p4, by rw [← eh1, hR_sI, hR_o (by omega)]; exact hR_s, by rw [← eh1]; exact hR_s, by rw [← eh1]; exact hI_s⟩, Nat.zero_le _, I'.mono (sm01 3 (by decide) (by decide)) (sm01 4 (by decide) (by decide)), by omega⟩, ?_, i4.1.2.2.1.1.mono fun a h1 h2 => sm01 a (by omega) (by omega), hd.2.2.1, hd.1⟩
    funext i; unfold tx; rw [(sm01 4 (by decide) (by decide)).1]
  have hN1 : hN h1 = hN h + 1 := by rw [← eh1, ← hN0]; rfl
  have hU1 : hU h1 = hU h + 3 := by rw [← eh1, ← hU0]; rfl
  clear eh1
  refine ⟨P.1.1.1, ?_⟩
  have h231 : 231 ≤ p := by omega
  -- what stands after the parse
  have mid : ∀ h2, Pst h2 p db (if R.1 ≤ N then R.1 else 0) N (tx h N) ∨ Fmt h2 db → CFr 0 p db h1 h2 → Mdc db h h2 := by
    intro h2 P2 F2
    have fm : Fmt h2 db := by
      rcases P2 with P2 | P2
      · exact P2.2.2.1
      · exact P2
    have hS2 : ∀ a, a < 231 → hS h2 a = hS h a := fun a ha => by rw [F2.1.1, (sm1 a (by omega)).2.2.2.2, hS0]
    have e2 := F2.2.1 2 (by omega) (by omega)
    refine ⟨fun a ha hb h2' => ?_, hS2, ?_, fun j hj => ?_, ?_, ?_, by rw [F2.1.2.1, hN1], by rw [F2.1.2.2, hU1], fm⟩
    · have := F2.2.1 a (by omega) hb
      refine (sm01 a ha h2').trans ⟨this.1, this.2.1, this.2.2.1, this.2.2.2, by rw [F2.1.1]⟩
    · rw [e2.1, (sm1 2 (by omega)).1]; exact z7
    · rw [e2.1, (sm1 2 (by omega)).1]; exact z2 j hj
    · rw [e2.2.2.1, (sm1 2 (by omega)).2.2.1, hR0]
    · rw [e2.2.1, (sm1 2 (by omega)).2.1, hL0]
  have q5 : hR h 2 5 = db := i4.1.2.1.2.2.2.2.2.1
  have q6 : hR h 2 6 = cb := i4.1.2.1.2.2.2.2.2.2
  -- an exception
  have exc : ∀ h2 (c : Nat) (v : Int32), Mdc db h h2 → ((v = 1 ∧ (R.2 = none ∨ ¬ R.1 = N)) ∨ (v = 2 ∧ ∃ S, R = (N, some S) ∧ TW S ∧ ¬ Snd_ S)) → ¬ v = 0 → CEnd db cb N R h v (hNew h2 c 0 6) := by
    rintro h2 c v ⟨m1, m2, m3, m4, m5, m6, m7, m8, m9⟩ hv v0
    have nw : ∀ a, a < 231 → Sm h2 (hNew h2 c 0 6) a := fun a ha => Sm.nw (by omega)
    refine ⟨⟨⟨by rw [hN_nw]; omega, by rw [hN_nw]; omega, by rw [hU_nw]; omega⟩, fun a ha => by rw [(nw a ha).2.2.2.2]; exact m2 a ha, fun a ha hb h2' h9 => ?_, fun j hj => by rw [(nw 2 (by decide)).1]; exact m4 j hj, fun j _ _ => by rw [(nw 2 (by decide)).2.2.1, m5], m9.mono fun a h1 h2 => nw a (by omega), by rw [(nw 2 (by decide)).2.1, m6]⟩, ?_, fun _ => ⟨by rw [(nw 2 (by decide)).1]; exact m3, ?_, ?_⟩, fun q => absurd q v0⟩
    · have := (m1 a ha hb h2').trans (nw a ha)
      exact ⟨this.1, this.2.1, this.2.2.1, this.2.2.2.1⟩
    · rcases hv with hv | hv
      · exact Or.inl hv
      · exact Or.inr (Or.inl hv)
    · rw [(nw 2 (by decide)).2.2.1, m5]; exact q5
    · rw [(nw 2 (by decide)).2.2.1, m5]; exact q6
  refine c_parse (d := d + 8) P (F := F) (G := G) hpT (fun e h2 P2 F2 => ?_) fun S e h2 P2 C2 F2 => ?_
  · have M := mid h2 (Or.inr P2.2.2.1) F2
    have jN := P2.1.2.1
    have m7 := M.2.2.2.2.2.2.1
    have m8 := M.2.2.2.2.2.2.2.1
    rw [if_neg (fun q => by
      have := congrArg Int32.toInt q
      rw [iv_toInt (by omega)] at this
      have z : (-2 : Int32).toInt = -2 := by decide
      omega)]
    refine ⟨room_of (by rw [cN_]; omega) (by rw [cU_]; omega), ?_⟩
    rw [hS_nw, if_pos rfl, if_pos rfl]
    exact exc h2 12 1 M (Or.inl ⟨rfl, e⟩) (by decide)
  · have M := mid h2 (Or.inr P2.2.2.1) F2
    obtain ⟨m1, m2, m3, m4, m5, m6, m7, m8, m9⟩ := M
    have W : TW S := tw_top (sgn_tx h N) (hpT.trans e) N90
    rw [if_pos rfl]
    refine ⟨by rw [m2 2 (by decide)]; exact I.s2, ?_⟩
    rw [m5, q5]
    have Fc : Fcx h2 db S := ⟨C2.fmt.1, m9, ⟨hd.2.2.1, hd.1⟩, W⟩
    have keepM : ∀ h3, SFr db h2 h3 → Mdc db h h3 := by
      intro h3 f
      obtain ⟨⟨f1, f2, f3, f4, f5⟩, f6, f7⟩ := f
      refine ⟨fun a ha hb h2' => (m1 a ha hb h2').trans ⟨by rw [f1], funext fun j => f7 a j (by omega), funext fun j => f6 a j (by omega), by rw [f5], by rw [f2]⟩, fun a ha => by rw [f2]; exact m2 a ha, by rw [f1]; exact m3, fun j hj => by rw [f1]; exact m4 j hj, ?_, ?_, by rw [f3]; exact m7, by rw [f4]; exact m8, m9.fr ⟨⟨f1, f2, f3, f4, f5⟩, f6, f7⟩⟩
      · rw [← m5]; exact funext fun j => f6 2 j (by omega)
      · rw [← m6]; exact funext fun j => f7 2 j (by omega)
    refine ⟨m9.1, c_isSound (d := d + 34) Fc C2.fmt.2 (fun ns h3 f => ?_) fun s h3 f cp => ?_⟩
    · have M3 := keepM h3 f
      have n3 := M3.2.2.2.2.2.2.1
      have u3 := M3.2.2.2.2.2.2.2.1
      rw [if_pos rfl]
      refine ⟨room_of (by rw [cN_]; omega) (by rw [cU_]; omega), ?_⟩
      rw [hS_nw, if_pos rfl, if_neg (by decide), if_pos rfl]
      exact exc h3 10 2 M3 (Or.inr ⟨rfl, S, e, W, ns⟩) (by decide)
    · obtain ⟨o1, o2, o3, o4, o5, o6, o7, o8, o9⟩ := keepM h3 f
      rw [if_neg (by decide)]
      refine ⟨by rw [o2 2 (by decide)]; exact I.s2, ?_⟩
      rintro _ rfl _ rfl _ rfl _ rfl
      have e5 : hR h3 2 5 = db := by rw [o5]; exact q5
      have e6 : hR h3 2 6 = cb := by rw [o5]; exact q6
      have x6 : hR (sI (sR (sR h3 2 6 (hR h3 2 5)) 2 5 (hR h3 2 6)) 2 7 1) 2 6 = db := by rw [hR_sI, hR_o (by omega), hR_s, e5]
      have x5 : hR (sI (sR (sR h3 2 6 (hR h3 2 5)) 2 5 (hR h3 2 6)) 2 7 1) 2 5 = cb := by rw [hR_sI, hR_s, e6]
      have sm3 : ∀ a, ¬ a = 2 → Sm h3 (sI (sR (sR h3 2 6 (hR h3 2 5)) 2 5 (hR h3 2 6)) 2 7 1) a := fun a ha => (Sm.sR ha).trans ((Sm.sR ha).trans (Sm.sI ha))
      have x2 : ∀ j, ¬ j = 5 → ¬ j = 6 → hR (sI (sR (sR h3 2 6 (hR h3 2 5)) 2 5 (hR h3 2 6)) 2 7 1) 2 j = hR h3 2 j := fun j a b => by rw [hR_sI, hR_o (by omega), hR_o (by omega)]
      have x7 : hI (sI (sR (sR h3 2 6 (hR h3 2 5)) 2 5 (hR h3 2 6)) 2 7 1) 2 7 = 1 := hI_s
      have x8 : ∀ j, ¬ j = 7 → hI (sI (sR (sR h3 2 6 (hR h3 2 5)) 2 5 (hR h3 2 6)) 2 7 1) 2 j = hI h3 2 j := fun j a => hI_o (by omega)
      have x9 : hL (sI (sR (sR h3 2 6 (hR h3 2 5)) 2 5 (hR h3 2 6)) 2 7 1) 2 = hL h3 2 := rfl
      have xn : hN (sI (sR (sR h3 2 6 (hR h3 2 5)) 2 5 (hR h3 2 6)) 2 7 1) = hN h3 := rfl
      have xu : hU (sI (sR (sR h3 2 6 (hR h3 2 5)) 2 5 (hR h3 2 6)) 2 7 1) = hU h3 := rfl
      have xs : hS (sI (sR (sR h3 2 6 (hR h3 2 5)) 2 5 (hR h3 2 6)) 2 7 1) = hS h3 := rfl
      rw [x6]
      generalize sI (sR (sR h3 2 6 (hR h3 2 5)) 2 5 (hR h3 2 6)) 2 7 1 = h4 at x5 x6 sm3 x2 x7 x8 x9 xn xu xs ⊢
      have fr4 : ∀ a, db ≤ a → a < db + 92 → Sm h3 h4 a := fun a h1 h2 => sm3 a (by omega)
      have F3 := Fc.fr f
      have cp4 : CpT h4 db S := cp.mono (by rw [(fr4 db (by omega) (by omega)).1]) fun k hk => by
        have := fr4 (db + 2 + k) (by omega) (by omega)
        exact ⟨this.1, this.2.2.1, fun j _ => by rw [this.2.1]⟩
      have F4 : Fcx h4 db S := ⟨cp4.1, F3.2.1.mono fr4, F3.2.2⟩
      have me0 := s.2 0 W.2.1.1
      refine ⟨o9.1, c_most (d := d + 37) F4 (root_nb W s) cp4 me0.1 (wr (by rw [xs, o2 229 (by decide)]; exact I.s229) ?_)⟩
      have s9 : ∀ a, ¬ a = 229 → Sm h4 (sL h4 229 0 (iv (me S 0).2).toInt64) a := fun a ha => Sm.sL ha
      refine ⟨⟨⟨by show _ ≤ hN h4; omega, by show hN h4 ≤ _; omega, by show hU h4 ≤ _; omega⟩, fun a ha => by show hS h4 a = _; rw [xs]; exact o2 a ha, fun a ha hb h2' h9 => ?_, fun j hj => by show hI h4 2 j = _; rw [x8 j hj]; exact o4 j hj, fun j j5 j6 => by show hR h4 2 j = _; rw [x2 j j5 j6, o5], F4.2.1.mono fun a h1 h2 => s9 a (by omega), by rw [(s9 2 (by decide)).2.1, x9, o6]⟩, Or.inr (Or.inr ⟨rfl, S, e, W, s, cp4.mono (by rw [(s9 db (by omega)).1]) fun k hk => ?_, hL_s⟩), fun q => absurd rfl q, fun _ => ⟨x7, x5, x6⟩⟩
      · have := ((o1 a ha hb h2').trans (sm3 a h2')).trans (s9 a h9)
        exact ⟨this.1, this.2.1, this.2.2.1, this.2.2.2.1⟩
      · have := s9 (db + 2 + k) (by omega)
        exact ⟨this.1, this.2.2.1, fun j _ => by rw [this.2.1]⟩
end CMP4
