section SIZ6
variable {d n db cb : Nat} {h : Hp}
/-- the Model's table, made anew from the formed text -/
theorem c_restore {K : Hp → Prop} {g : Hp} {t : Nat → Int32} {N : Nat} {S : Tb} (M : ShM g) (Sr : Src g 1 t N) (e : pT t 5 0 0 (-1) (-1) (-1) (0, sF0 g, fun _ => 0) = (N, some S)) (W : TW S) (s : Snd_ S) (k : ∀ g', MsT g' S → ∀ g1, MFr g g1 → MSf g1 g' → K g') : Ca (d + 5) m_Mo_restore [.ref 197] g (QV K) := by
  refine w_Mo_restore ⟨M.o, c_scan (d := d) M Sr e (fun q _ => ?_) fun S' e' _ _ g1 T1 f1 => ?_⟩
  · rcases q with q | q
    · cases q
    · exact absurd rfl q
  · cases e'
    refine ⟨T1.1.o, c_soundAll (d := d + 2) W T1 (fun ns => absurd s ns) fun _ g2 f2 ms => ?_⟩
    exact k g2 ms g1 f1 f2
theorem Src.all {g : Hp} {x : Int32} {t : Nat → Int32} {N : Nat} (S : Src g x t N) (i : Nat) : Sgn (t i) := by
  by_cases c : i < N
  · exact S.2.1 i c
  · rw [S.1.2 i (by omega)]; exact ⟨0, by decide, rfl⟩
/-- the class's part changed the answer alone, or made an object -/
theorem cfm_id (I : Inv n db cb h) {h1 : Hp} (hn : hN h ≤ hN h1 ∧ hN h1 ≤ hN h + 4 ∧ hU h1 ≤ hU h + 60) (sm : ∀ a, a < 231 → ¬ a = 229 → Sm h h1 a) (s9 : hS h1 229 = hS h 229) : CFm db h h1 := by
  have hd := I.dd
  refine ⟨hn, fun a ha => ?_, fun a ha _ _ h9 => ?_, fun j _ => by rw [(sm 2 (by decide) (by decide)).1], fun j _ _ => by rw [(sm 2 (by decide) (by decide)).2.2.1], I.2.1.1.2.2.1.1.mono fun a a1 a2 => sm a (by omega) (by omega), by rw [(sm 2 (by decide) (by decide)).2.1]⟩
  · by_cases z : a = 229
    · rw [z]; exact s9
    · exact (sm a ha z).2.2.2.2
  · have := sm a ha h9
    exact ⟨this.1, this.2.1, this.2.2.1, this.2.2.2.1⟩
theorem op_size (I : Inv n db cb h) (hn : n ≤ 600) (x : Int32) (hx : x = 0 ∨ x = 1) : Ca (d + 40) m_La_size [.ref 2, .int x, .ref 229] h (QI fun v h1 => (Mid h h1 ∧ (hS h1 197).1 = 8) ∧ Ca (d + 40) m_Mo_size [.ref 197, .int x] h1 (QI fun b h2 => Res n h v b.toInt64 h2)) := by
  have hd := I.dd
  have i1 := I.1
  have F := I.2.2.2.1
  have e6 : hR h 2 6 = cb := I.2.1.1.2.1.2.2.2.2.2.2
  have e5 : hR h 2 5 = db := I.2.1.1.2.1.2.2.2.2.2.1
  refine w_La_size ⟨I.s2, w_Ff_size ⟨I.s2, ?_⟩⟩
  by_cases c0 : hI h 2 7 = 0
  · rw [if_pos c0]
    refine ⟨I.room6 hn, ?_⟩
    rw [hS_nw, if_pos rfl, if_pos rfl]
    refine ⟨⟨I.excMid 13, I.exc8 13⟩, w_Mo_size ⟨I.exc8 13, ?_⟩⟩
    rintro _ rfl
    rw [hI_o (by omega), hI_nwne (by omega), ← F.1.1, if_pos c0]
    refine w_Mo_fail ⟨I.exc8 13, ?_⟩
    rintro _ rfl
    exact Res.exc I 13 (by decide)
  · have c1 : hI h 2 7 = 1 := F.2.resolve_left c0
    rw [if_neg c0, e6]
    obtain ⟨t, N, Sr, c⟩ := I.2.2.2.2 c1
    have N90 := Sr.1.1
    obtain ⟨S, p1, s, cp⟩ := c (sF0 h) (fun _ => 0)
    have W : TW S := tw_top (Src.all Sr) p1 N90
    have Fc : Fcx h cb S := ⟨cp.1, I.2.1.1.2.2.1.2, ⟨hd.2.2.2, hd.2.1⟩, W⟩
    have B0 := s.2 0 W.2.1.1
    have nb := root_nb W s
    have le0 : (me S 0).1 ≤ 1000 := by
      have : (me S 0).1 ≤ (me S 0).2 := (me_le W s.1 W.2.1.1 fun k hk => ?_).1
      · have := B0.1; omega
      · have : ∀ (m n : Nat), n + m = S.1 → ∀ k, n ≤ k → k < S.1 → (me S k).1 ≤ (me S k).2 := by
          intro m
          induction m with
          | zero => intro n hm k h1 h2; omega
          | succ m ih =>
            intro n hm k h1 h2
            by_cases z : k = n
            · subst z
              exact (me_le W s.1 h2 fun x hx => ⟨ih (k + 1) (by omega) x (kids_gt W.1 hx).1 (kids_gt W.1 hx).2, (s.2 x (kids_gt W.1 hx).2).1⟩).1
            · exact ih (n + 1) (by omega) k (by omega) h2
        exact ⟨this S.1 0 (Nat.zero_add _) k (Nat.zero_le _) (kids_gt W.1 hk).2, (s.2 k (kids_gt W.1 hk).2).1⟩
    -- the Model's part, for either end
    have mod : ∀ (v : Nat), v ≤ 1000 → ((x = 0 ∧ v = (me S 0).1) ∨ (¬ x = 0 ∧ v = (me S 0).2)) → (Mid h (sL h 229 0 (iv v).toInt64) ∧ (hS (sL h 229 0 (iv v).toInt64) 197).1 = 8) ∧ Ca (d + 40) m_Mo_size [.ref 197, .int x] (sL h 229 0 (iv v).toInt64) (QI fun b h2 => Res n h 0 b.toInt64 h2) := by
      intro v v1000 hv
      refine ⟨⟨Mid.of (Sm.sL (by decide)), I.m8⟩, w_Mo_size ⟨I.m8, ?_⟩⟩
      rintro _ rfl
      have z5 : hI (sI (sL h 229 0 (iv v).toInt64) 197 0 0) 197 5 = 1 := by rw [hI_o (by omega), hI_sL, ← F.1.1]; exact c1
      rw [z5, if_neg (by decide)]
      have C := cfm_id I (h1 := sL h 229 0 (iv v).toInt64) ⟨Nat.le_refl _, Nat.le_add_right _ _, Nat.le_add_right _ _⟩ (fun a _ h9 => Sm.sL h9) rfl
      have M2 : ShM (sI (sL h 229 0 (iv v).toInt64) 197 0 0) := I.M
      have Sr2 : Src (sI (sL h 229 0 (iv v).toInt64) 197 0 0) 1 t N := by
        obtain ⟨s1, s2, s3⟩ := Sr
        refine ⟨s1, s2, Or.inr ⟨rfl, ?_, fun i hi => ?_⟩⟩
        · rw [hI_o (by omega)]
          rcases s3 with ⟨q, -⟩ | ⟨-, q, -⟩
          · exact absurd q (by decide)
          · exact q
        · rw [hI_ne (by decide)]
          rcases s3 with ⟨q, -⟩ | ⟨-, -, q⟩
          · exact absurd q (by decide)
          · exact q i hi
      have eF : sF0 (sI (sL h 229 0 (iv v).toInt64) 197 0 0) = sF0 h := sF0_eq fun k j hj => by rw [hI_ne (by omega)]; rfl
      refine c_restore (d := d + 34) M2 Sr2 (by rw [eF]; exact p1) W s fun g' ms g1 f1 f2 => ?_
      have mf : MFm (sL h 229 0 (iv v).toInt64) g' := ((MFm.s7 (Or.inl rfl)).trans f1.mfm).trans f2.mfm
      have g7 : hI g' 197 0 = 0 := by rw [f2.2.1 197 (by decide), f1.2.2 0 (by decide) (by decide)]; exact hI_s
      have g5 : hI g' 197 5 = 1 := by rw [f2.2.1 197 (by decide), f1.2.2 5 (by decide) (by decide)]; exact z5
      have g4 : hI g' 197 4 = hI h 197 4 := by rw [f2.2.1 197 (by decide), f1.2.2 4 (by decide) (by decide), hI_o (by omega)]; rfl
      have comp : Comp g' cb := by
        refine (I.2.2.2.2 c1).mono ?_ g4 ?_ fun k hk => ⟨?_, by rw [mf.1.1]; rfl, fun j _ => by rw [mf.2.2.2 _ (by omega), hL_ne (by omega)]⟩
        · rw [f2.2.1 199 (by decide), f1.2.1 199 (by decide) (by decide), hI_ne (by decide)]; rfl
        · rw [mf.2.1 cb (by omega) (by omega) (by omega) (by omega)]; rfl
        · rw [mf.2.1 _ (by omega) (by omega) (by omega) (by omega)]; rfl
      obtain ⟨r1, r2⟩ := cmp_inv (h2 := g') I C mf e5 e6 (Or.inl ⟨rfl, rfl⟩) (by rw [g5]; exact c1.symm) F.2 (fun _ => comp)
      have o9 : hL g' 229 0 = (iv v).toInt64 := by rw [mf.2.2.2 229 (by decide)]; exact hL_s
      have gm := ms.2.2 0 W.2.1.1
      unfold gM at gm
      obtain ⟨gm1, gm2⟩ := Prod.mk.inj gm
      have M4 := ms.1.1
      have back : ∀ m, m ≤ 1000 → (jv m).toInt32 = iv m := fun m hm => by rw [← iv_jv (by omega)]; exact Int32.toInt32_toInt64 _
      rcases hv with ⟨x0, ve⟩ | ⟨x0, ve⟩
      · rw [if_pos x0, M4.r31, M4.s219]
        refine ⟨M4.o, rfl, by decide, ?_⟩
        rw [show (0 : Int32).toNatClampNeg = 0 by decide, gm1, back _ le0, ← ve]
        exact ⟨r1, ⟨db, cb, r2⟩, g7, fun _ => o9⟩
      · rw [if_neg x0, M4.r32, M4.s220]
        refine ⟨M4.o, rfl, by decide, ?_⟩
        rw [show (0 : Int32).toNatClampNeg = 0 by decide, gm2, back _ B0.1, ← ve]
        exact ⟨r1, ⟨db, cb, r2⟩, g7, fun _ => o9⟩
    by_cases x0 : x = 0
    · rw [if_pos x0]
      exact ⟨Fc.2.1.1, c_least (d := d + 37) Fc nb cp le0 (wr I.s229 (mod _ le0 (Or.inl ⟨x0, rfl⟩)))⟩
    · rw [if_neg x0]
      exact ⟨Fc.2.1.1, c_most (d := d + 37) Fc nb cp B0.1 (wr I.s229 (mod _ B0.1 (Or.inr ⟨x0, rfl⟩)))⟩
end SIZ6
