/-! reading -/
abbrev rd0 : Ps (List Int64) := (0, [], fun _ => none, -1, -1)
section OPR
variable {d n db cb p : Nat} {h : Hp}
/-- the Model's reading -/
theorem m_read {K : Hp → Prop} {g : Hp} {t : Nat → Int32} {N L : Nat} {S : Tb} {m : Nat → Int32} (M : ShM g) (Sr : Src g 1 t N) (e : pT t 5 0 0 (-1) (-1) (-1) (0, sF0 g, fun _ => 0) = (N, some S)) (W : TW S) (s : Snd_ S) (msg : hI g 197 7 = iv L ∧ L ≤ 120 ∧ (∀ i, i < L → hI g 200 i = m i) ∧ (∀ i, L ≤ i → m i = 0) ∧ ∀ i, ∃ k, k < 256 ∧ m i = iv k)
    (kF : (psF S (URd m L S) (spRd m) 5 0 rd0).1 = 0 → ∀ g', MoF g g' → hI g' 197 41 = 0 → hI g' 197 42 = iv (bfN (psF S (URd m L S) (spRd m) 5 0 rd0).2.1) → FndM g' (psF S (URd m L S) (spRd m) 5 0 rd0).2.2.1 → K g')
    (kE : ¬ (psF S (URd m L S) (spRd m) 5 0 rd0).1 = 0 → ∀ g', MoF g g' → hI g' 197 41 = (psF S (URd m L S) (spRd m) 5 0 rd0).1 + 1 → ((psF S (URd m L S) (spRd m) 5 0 rd0).1 + 1 = 2 ∨ (psF S (URd m L S) (spRd m) 5 0 rd0).1 + 1 = 3) → hI g' 197 47 = (psF S (URd m L S) (spRd m) 5 0 rd0).2.2.2.2.1 → hI g' 197 48 = (psF S (URd m L S) (spRd m) 5 0 rd0).2.2.2.2.2 → K g') : Ca (d + 16) m_Mo_pass [.ref 197, .int 0] g (QV K) := by
  refine m_pass (d := d) (Or.inl rfl) M Sr e W s fun g0 f T A e40 e41 e42 e43 e46 e39 e47 => ?_
  have R0 : Rm0 L m S g0 := ⟨⟨T, A⟩, ⟨by rw [f.2.2.1 7 (by omega)]; exact msg.1, msg.2.1, fun i hi => by rw [f.2.1 200 (by decide) (by decide)]; exact msg.2.2.1 i hi, msg.2.2.2⟩, e40⟩
  have ry : RyR L m S g0 rd0 g0 := ⟨⟨MdF.refl g0, e41, ⟨e42, Nat.zero_le _⟩, e47, ⟨e46, Nat.zero_le _, fun i hi => absurd hi (Nat.not_lt_zero _)⟩, fun q v hq => (by cases hq)⟩, rfl, Or.inl e43⟩
  refine r_top W s (lv_top e) sok_rd (uok_rd W) (rd_mh R0 W) ry e39 (fun z g' y => ?_) fun z g' y => ?_
  · exact kF z g' (f.trans (MoF.mdf y.1.1)) y.1.2.1 y.1.2.2.1.1 y.1.2.2.2.2.1
  · exact kE z g' (f.trans (MoF.mdf y.1.1)) y.1.2.1.1 y.1.2.1.2 y.1.2.2.1 y.1.2.2.2
theorem rd_copy {K : Int32 → Hp → Prop} {g0 : Hp} {m : Nat} (M : ShM g0) (hm : m ≤ 160) (e9 : hI g0 197 9 = iv m) (kk : ∀ g, OnL 201 g0 g → (∀ j, j < m → hL g 201 j = hL g0 228 j) → K (iv m) g) : ∀ (r k : Nat) (g : Hp), k + r = m → OnL 201 g0 g → (∀ j, j < k → hL g 201 j = hL g0 228 j) → Wp (d + 1) m_Mo_read 102 [some (.ref 197), some (.int (iv k))] [] g (QI K)
  | 0, k, g, e, o, hl => by
    refine w_Mo_read_102 ⟨by rw [o.2.2.1]; exact M.o, ?_⟩
    rw [o.1, e9, if_neg (fun q => by have := (iv_lt (by omega) (by omega)).mp q; omega)]
    exact kk g o fun j hj => hl j (by omega)
  | r + 1, k, g, e, o, hl => by
    refine w_Mo_read_102 ⟨by rw [o.2.2.1]; exact M.o, ?_⟩
    rw [o.1, e9, if_pos ((iv_lt (by omega) (by omega)).mpr (by omega)), o.2.1, M.r8, M.r45, o.2.2.1, M.s201, M.s228, iv_clamp (by omega)]
    refine ⟨rfl, ainr_iv (by omega) (by omega), rfl, by decide, ainr_iv (by omega) (by omega), ?_⟩
    rintro _ rfl _ rfl
    rw [iv1, iv_add]
    refine rd_copy M hm e9 kk r (k + 1) _ (by omega) (o.sL _ _) fun j hj => ?_
    by_cases c : j = k
    · rw [c, hL_s, o.2.2.2.2.2.1 228 (by decide)]
    · rw [hL_o (fun q => c q.2)]; exact hl j (by omega)
/-- the heap at the reading's begin -/
def rdH (h : Hp) (p : Nat) : Hp := sR (sR (sI (sI (sI (hNew (sI h 11 1 (iv 0)) 5 0 5) p 0 0) p 1 (-1)) p 2 (-1)) p 3 5) p 4 11
theorem rdH_sm (hp : p = hN h) {a : Nat} (h1 : ¬ a = p) (h2 : ¬ a = 11) : Sm h (rdH h p) a :=
  ((((((Sm.sI h2).trans (Sm.nw (show ¬ a = hN (sI h 11 1 (iv 0)) by rw [hN_sI]; omega))).trans (Sm.sI h1)).trans (Sm.sI h1)).trans (Sm.sI h1)).trans (Sm.sR h1)).trans (Sm.sR h1)
theorem rdH_11 (hp : p = hN h) (h11 : ¬ 11 = p) (j : Nat) : hI (rdH h p) 11 j = if j = 1 then iv 0 else hI h 11 j := by
  unfold rdH
  rw [hI_sR, hI_sR, hI_ne h11, hI_ne h11, hI_ne h11, hI_nwne (show ¬ 11 = hN (sI h 11 1 (iv 0)) by rw [hN_sI]; omega), hI_sI]
  by_cases c : j = 1
  · rw [if_pos ⟨rfl, c⟩, if_pos c]
  · rw [if_neg (fun q => c q.2), if_neg c]
theorem rdH_11r (hp : p = hN h) (h11 : ¬ 11 = p) : hL (rdH h p) 11 = hL h 11 ∧ hR (rdH h p) 11 = hR h 11 ∧ hS (rdH h p) 11 = hS h 11 := by
  unfold rdH
  refine ⟨?_, ?_, ?_⟩
  · rw [hL_sR, hL_sR, hL_sI, hL_sI, hL_sI, hL_nwne (show ¬ 11 = hN (sI h 11 1 (iv 0)) by rw [hN_sI]; omega), hL_sI]
  · rw [hR_ne h11, hR_ne h11, hR_sI, hR_sI, hR_sI, hR_nwne (show ¬ 11 = hN (sI h 11 1 (iv 0)) by rw [hN_sI]; omega), hR_sI]
  · rw [hS_sR, hS_sR, hS_sI, hS_sI, hS_sI, hS_nw, if_neg (show ¬ 11 = hN (sI h 11 1 (iv 0)) by rw [hN_sI]; omega), hS_sI]
theorem rdH_p (hp : p = hN h) : hS (rdH h p) p = (5, 0) ∧ hR (rdH h p) p 3 = 5 ∧ hR (rdH h p) p 4 = 11 ∧ hI (rdH h p) p 0 = 0 ∧ hI (rdH h p) p 1 = -1 ∧ hI (rdH h p) p 2 = -1 := by
  unfold rdH
  refine ⟨?_, ?_, ?_, ?_, ?_, ?_⟩
  · rw [hS_sR, hS_sR, hS_sI, hS_sI, hS_sI, hS_nw, if_pos (show p = hN (sI h 11 1 (iv 0)) from hp)]
  · rw [hR_o (by omega), hR_s]
  · rw [hR_s]
  · rw [hI_sR, hI_sR, hI_o (by omega), hI_o (by omega), hI_s]
  · rw [hI_sR, hI_sR, hI_o (by omega), hI_s]
  · rw [hI_sR, hI_sR, hI_s]
theorem rd_re (I : Inv n db cb h) (hp : p = hN h) {h1 : Hp} (f : RdF p cb (rdH h p) h1) (lg : ∃ n, Lng h1 11 12 n 160) : RE cb h h1 ∧ ((hI h1 5 = hI h 5 ∧ hI h1 6 = hI h 6) ∧ hI h1 7 = hI h 7 ∧ hL h1 8 = hL h 8) ∧ hI h1 2 = hI h 2 := by
  have hd := I.dd
  have i1 := I.1
  have sm : ∀ a, ¬ a = p → ¬ a = 11 → Sm h (rdH h p) a := fun a q1 q2 => rdH_sm hp q1 q2
  obtain ⟨⟨f1, f2, f3, f4, f5⟩, f6, f7, f8, f9⟩ := f
  have eI : ∀ a, ¬ a = p → ¬ a = 11 → hI h1 a = hI h a := fun a q1 q2 => (f6 a q1 q2).trans (sm a q1 q2).1
  have eL : ∀ a, a < 231 → ¬ a = 12 → ¬ (cb + 2 ≤ a ∧ a < cb + 92) → hL h1 a = hL h a := fun a q1 q2 q3 => by
    rw [f8 a q2 q3]
    by_cases c : a = 11
    · rw [c]; exact (rdH_11r hp (by omega)).1
    · exact (sm a (by omega) c).2.1
  have lo : Lo h h1 := fun c hc => by
    rw [f1, f2]
    by_cases e : c = 11
    · rw [e]; exact (rdH_11r hp (by omega)).2
    · exact ⟨(sm c (by omega) e).2.2.1, (sm c (by omega) e).2.2.2.2⟩
  refine ⟨⟨⟨lo, fun a q1 _ _ _ _ _ _ q2 _ => eI a (by omega) q2, by rw [eI 2 (by omega) (by decide)], fun j _ => by rw [eI 197 (by omega) (by decide)], fun a j q1 q2 q3 => ?_⟩, ⟨I.2.2.1.2.2.2.1.elim fun t B => ⟨t, B.cp lo (by decide) (by decide) (eI 9 (by omega) (by decide))⟩, lg⟩, fun a q1 q2 => ⟨eI a (by omega) (by omega), eL a (by omega) (by omega) (by omega)⟩⟩, ⟨⟨eI 5 (by omega) (by decide), eI 6 (by omega) (by decide)⟩, eI 7 (by omega) (by decide), eL 8 (by decide) (by decide) (by omega)⟩, eI 2 (by omega) (by decide)⟩
  rw [f9 a j (by omega) q3, (sm a (by omega) (by omega)).2.1]
def mgC (h : Hp) (n i : Nat) : Int32 := if i < n then hI h 6 i &&& 255 else 0
theorem mgC_ok (h : Hp) (n : Nat) : (∀ i, n ≤ i → mgC h n i = 0) ∧ ∀ i, ∃ k, k < 256 ∧ mgC h n i = iv k := by
  refine ⟨fun i hi => if_neg (by omega), fun i => ?_⟩
  unfold mgC
  by_cases c : i < n
  · rw [if_pos c]; exact sgn_255 _
  · rw [if_neg c]; exact ⟨0, by decide, rfl⟩
theorem op_read (I : Inv n db cb h) (hn : n ≤ 600) : Ca (d + 40) m_La_read [.ref 2, .ref 229] h (QI fun v h1 => (Mid h h1 ∧ (hS h1 197).1 = 8) ∧ Ca (d + 40) m_Mo_read [.ref 197] h1 (QI fun b h2 => Res n h v b.toInt64 h2)) := by
  have hd := I.dd
  have i1 := I.1
  have F := I.2.2.2.1
  have e1 : hR h 2 1 = 5 := I.2.1.1.2.1.2.1
  have e2 : hR h 2 2 = 7 := I.2.1.1.2.1.2.2.1
  have e4 : hR h 2 4 = 11 := I.2.1.1.2.1.2.2.2.2.1
  have e6 : hR h 2 6 = cb := I.2.1.1.2.1.2.2.2.2.2.2
  refine w_La_read ⟨I.s2, w_Ff_read ⟨I.s2, w_Ff_demandCompiled ⟨I.s2, ?_⟩⟩⟩
  by_cases c0 : hI h 2 7 = 0
  · rw [if_pos c0]
    refine ⟨I.room6 hn, ?_⟩
    rw [hS_nw, if_pos rfl, if_pos rfl]
    refine ⟨⟨I.excMid 12, I.exc8 12⟩, w_Mo_read ⟨I.exc8 12, ?_⟩⟩
    rintro _ rfl
    rw [hI_o (by omega), hI_nwne (by omega), ← F.1.1, if_pos c0]
    refine w_Mo_fail ⟨I.exc8 12, ?_⟩
    rintro _ rfl
    exact Res.exc I 12 (by decide)
  have c1 : hI h 2 7 = 1 := F.2.resolve_left c0
  rw [if_neg c0]
  obtain ⟨t, N, Sr, c⟩ := I.2.2.2.2 c1
  obtain ⟨S, p1, s, cp⟩ := c (sF0 h) (fun _ => 0)
  have W : TW S := tw_top (Src.all Sr) p1 Sr.1.1
  obtain ⟨-, ⟨L, MS⟩, ⟨lv, VS⟩, -, ⟨l, LN⟩⟩ := I.2.2.1
  have L120 : L ≤ 120 := MS.1.2.2.2.2.2.1
  obtain ⟨mz, mk⟩ := mgC_ok h L
  rw [e4]
  refine ⟨I.s2, LN.1, c_Lo_forgetAll LN ⟨room_of (by rw [cN_]; show hN h < _; omega) (by rw [cU_]; show hU h + _ ≤ _; omega), ?_⟩⟩
  rintro p hp' _ rfl
  have hp : p = hN h := hp'
  have h2p : ¬ 2 = p := by omega
  have r1 : hR (hNew (sI h 11 1 (iv 0)) 5 0 5) 2 1 = 5 := by rw [hR_nwne (show ¬ 2 = hN (sI h 11 1 (iv 0)) by rw [hN_sI]; omega)]; exact e1
  have r4 : hR (hNew (sI h 11 1 (iv 0)) 5 0 5) 2 4 = 11 := by rw [hR_nwne (show ¬ 2 = hN (sI h 11 1 (iv 0)) by rw [hN_sI]; omega)]; exact e4
  have s27 : (hS (hNew (sI h 11 1 (iv 0)) 5 0 5) 2).1 = 7 := by rw [hS_nw, if_neg (show ¬ 2 = hN (sI h 11 1 (iv 0)) by rw [hN_sI]; omega)]; exact I.s2
  have sp5 : (hS (hNew (sI h 11 1 (iv 0)) 5 0 5) p).1 = 5 := by rw [hS_nw, if_pos (show p = hN (sI h 11 1 (iv 0)) from hp)]
  rw [r1, r4]
  refine ⟨s27, sp5, w_Re_init ⟨Or.inl sp5, w_Co_init ⟨by omega, Or.inl sp5, ?_⟩⟩⟩
  rintro _ rfl _ rfl _ rfl
  refine ⟨sp5, ?_⟩
  rintro _ rfl _ rfl
  obtain ⟨q1, q2, q3, q4, q5, q6⟩ := rdH_p hp
  have sm : ∀ a, ¬ a = p → ¬ a = 11 → Sm h (rdH h p) a := fun a q1 q2 => rdH_sm hp q1 q2
  have e11 := rdH_11 hp (show ¬ 11 = p by omega)
  have r11 := rdH_11r hp (show ¬ 11 = p by omega)
  have hN1 : hN (rdH h p) = hN h + 1 := rfl
  have hU1 : hU (rdH h p) = hU h + 5 := rfl
  show (hS (rdH h p) 2).1 = 7 ∧ (hS (rdH h p) p).1 = 5 ∧ Ca (d + 38) m_Co_pass [.ref p, .ref (hR (rdH h p) 2 6)] (rdH h p) _
  have lo : Lo h (rdH h p) := fun c hc => by
    by_cases e : c = 11
    · rw [e]; exact r11.2
    · exact ⟨(sm c (by omega) e).2.2.1, (sm c (by omega) e).2.2.2.2⟩
  have Fc : Fmt (rdH h p) cb := (I.2.1.1.2.2.1.2).lo lo (by omega)
  have cp1 : CpT (rdH h p) cb S := cp.mono (by rw [(sm cb (by omega) (by omega)).1]) fun k hk => ⟨(sm _ (by omega) (by omega)).1, (sm _ (by omega) (by omega)).2.2.1, fun j _ => by rw [(sm _ (by omega) (by omega)).2.1]⟩
  have LN1 : Lng (rdH h p) 11 12 0 160 := LN.len lo (by decide) (by decide) (by rw [e11, if_pos rfl]) (by decide)
  have R0 : Rd0 p cb L (mgC h L) S (rdH h p) := ⟨⟨by rw [q1], q2, q3, by omega⟩, ⟨cp1, Fc, hd.2.2.2, hd.2.1⟩, ⟨MS.1.cp lo (by decide) (by decide) (sm 5 (by omega) (by decide)).1, fun i hi => by rw [(sm 6 (by omega) (by decide)).1]; unfold mgC; rw [if_pos hi], mz⟩, ⟨0, LN1⟩⟩
  have rc : RcR p cb L S (rdH h p) rd0 (rdH h p) := ⟨RdF.refl _ _ _, ⟨q4, Nat.zero_le _⟩, ⟨q5, q6⟩, ⟨by rw [e11, if_pos rfl]; rfl, Nat.zero_le _, fun i hi => absurd hi (Nat.not_lt_zero _)⟩, fun q v hq => (by cases hq)⟩
  rw [(sm 2 h2p (by decide)).2.2.1, e6]
  refine ⟨by rw [(sm 2 h2p (by decide)).2.2.2.2]; exact I.s2, by rw [q1], w_Co_pass ⟨Fc.1, c_whole Fc cp1 W.2.1.1 ⟨Or.inl (by rw [q1]), ?_⟩⟩⟩
  refine c_top (d := d + 21) W s (lv_top p1) sok_rd (uok_rd W) (fun s' h' r => r.bse R0) (fun s' h' r => r.re R0) (rd_sp R0) (rd_un R0 W) (s := rd0) rfl rc ?_
  generalize eo : psF S (URd (mgC h L) L S) (spRd (mgC h L)) 5 0 rd0 = o
  intro h19 ro
  obtain ⟨re, ⟨mv, e7, e8⟩, e22⟩ := rd_re I hp ro.2.1 ro.2.2.2
  have s2 : (hS h19 2).1 = 7 := by rw [(re.1.1 2 (by decide)).2]; exact I.s2
  have sp : (hS h19 p).1 = 5 := by rw [ro.2.1.1.2.1, q1]
  have hN19 : hN h19 = hN h + 1 := by rw [ro.2.1.1.2.2.1]; rfl
  have hU19 : hU h19 = hU h + 5 := by rw [ro.2.1.1.2.2.2.1]; rfl
  -- the Model's part of a refusal
  have mod : ∀ (e : Int32) (cl : Nat) (a b : Int32), ¬ e = 0 → (∀ Q : Int32 → Hp → Prop, RE cb h (hNew (sI (sI h19 2 8 a) 2 9 b) cl 0 6) → (∀ g', MoG (hNew (sI (sI h19 2 8 a) 2 9 b) cl 0 6) g' → hI g' 197 10 = a → hI g' 197 11 = b → Ca (d + 39) m_Mo_fail [.ref 197, .int e] g' (QI Q)) → Ca (d + 40) m_Mo_read [.ref 197] (hNew (sI (sI h19 2 8 a) 2 9 b) cl 0 6) (QI Q)) → room (sI (sI h19 2 8 a) 2 9 b) 6 = true ∧ (Mid h (hNew (sI (sI h19 2 8 a) 2 9 b) cl 0 6) ∧ (hS (hNew (sI (sI h19 2 8 a) 2 9 b) cl 0 6) 197).1 = 8) ∧ Ca (d + 40) m_Mo_read [.ref 197] (hNew (sI (sI h19 2 8 a) 2 9 b) cl 0 6) (QI fun b h2 => Res n h e b.toInt64 h2) := by
    intro e cl a b e0 k
    have n231 : 231 ≤ hN (sI (sI h19 2 8 a) 2 9 b) := by show 231 ≤ hN h19; omega
    have E1 : RE cb h (hNew (sI (sI h19 2 8 a) 2 9 b) cl 0 6) := ((re.sp (by decide)).sp (by decide)).nw n231 hd.2.1
    have n9 : ∀ x : Nat, x < 231 → ¬ x = hN (sI (sI h19 2 8 a) 2 9 b) := fun x hx => by omega
    have m1 : Msg (hNew (sI (sI h19 2 8 a) 2 9 b) cl 0 6) L := E1.msg (by rw [hI_nwne (n9 5 (by decide)), hI_ne (by decide), hI_ne (by decide)]; exact mv.1) (by rw [hI_nwne (n9 6 (by decide)), hI_ne (by decide), hI_ne (by decide)]; exact mv.2) MS
    have v1 : Vls (hNew (sI (sI h19 2 8 a) 2 9 b) cl 0 6) lv := E1.vls (by rw [hI_nwne (n9 7 (by decide)), hI_ne (by decide), hI_ne (by decide)]; exact e7) (by rw [hL_nwne (n9 8 (by decide))]; exact e8) VS
    refine ⟨room_of (by rw [cN_]; show hN h19 < _; omega) (by rw [cU_]; show hU h19 + _ ≤ _; omega), ⟨E1.mid, (E1.shM I).o⟩, k _ E1 fun g' f a1 b1 => ?_⟩
    refine E1.fail I ⟨?_, ?_, ?_⟩ f ⟨L, m1⟩ ⟨lv, v1⟩ e0 ⟨?_, ?_⟩
    · show hN h ≤ hN h19 + 1; omega
    · show hN h19 + 1 ≤ _; omega
    · show hU h19 + 6 ≤ _; omega
    · rw [a1, hI_nwne (n9 2 (by decide)), hI_o (by omega), hI_s]
    · rw [b1, hI_nwne (n9 2 (by decide)), hI_s]
  -- the Model's beginning, from what the class leaves
  have beg : ∀ (h1 : Hp) (Q : Int32 → Hp → Prop), RE cb h h1 → (o.1 = 0 → bfN o.2.1 < L → ∀ g', MoG h1 g' → hI g' 197 10 = iv (bfN o.2.1) → hI g' 197 11 = -1 → Ca (d + 39) m_Mo_fail [.ref 197, .int 4] g' (QI Q)) → (o.1 = 0 → ¬ bfN o.2.1 < L → ∀ g', MoF (sI h1 197 0 0) g' → FndM g' o.2.2.1 → Wp (d + 40) m_Mo_read 102 [some (.ref 197), some (.int (0 : Int32))] [] (sI g' 197 9 (iv o.2.2.1.length)) (QI Q)) → (¬ o.1 = 0 → (o.1 + 1 = 2 ∨ o.1 + 1 = 3) → ∀ g', MoG h1 g' → hI g' 197 10 = o.2.2.2.2.1 → hI g' 197 11 = o.2.2.2.2.2 → Ca (d + 39) m_Mo_fail [.ref 197, .int (o.1 + 1)] g' (QI Q)) → Ca (d + 40) m_Mo_read [.ref 197] h1 (QI Q) := by
    intro h1 Q E kA kB kE
    obtain ⟨M2, Sr2, eF, f5⟩ := E.mo I c1 Sr
    refine w_Mo_read ⟨(E.shM I).o, ?_⟩
    rintro _ rfl
    rw [f5, if_neg (by decide)]
    have g1 : MoG h1 (sI h1 197 0 0) := MoG.s7 (Or.inl rfl)
    have ms : hI (sI h1 197 0 0) 197 7 = iv L := by rw [hI_o (by omega), (E.2.2 197 (by decide) (by decide)).1]; exact MS.2.1
    have mm : ∀ i, i < L → hI (sI h1 197 0 0) 200 i = mgC h L i := fun i hi => by
      rw [hI_ne (by decide), (E.2.2 200 (by decide) (by decide)).1]
      unfold mgC; rw [if_pos hi]; exact (MS.2.2 i hi).symm
    refine m_read (d := d + 23) (m := mgC h L) M2 Sr2 (by rw [eF]; exact p1) W s ⟨ms, L120, mm, mz, mk⟩ (fun z g' f x41 x42 fm => ?_) fun z g' f x41 x2 x47 x48 => ?_
    · rw [eo] at z x42 fm
      have M' : ShM g' := M2.same f.1.1 f.1.2.1
      refine ⟨M'.o, ?_⟩
      rw [x41, if_pos rfl, x42, f.2.2.1 7 (by omega), ms]
      have b : o.2.1 ≤ 8 * L := (ro.1 z).2.1.2
      have b2 : bfN o.2.1 ≤ 200 := by unfold bfN; omega
      by_cases lt : bfN o.2.1 < L
      · rw [if_pos ((iv_lt (by omega) (by omega)).mpr lt)]
        rintro _ rfl _ rfl
        exact kA z lt _ (((g1.trans f.g).trans (MoG.s7 (by omega))).trans (MoG.s7 (by omega))) (by rw [hI_o (by omega), hI_s]) hI_s
      · rw [if_neg (fun q => lt ((iv_lt (by omega) (by omega)).mp q))]
        refine w_Mo_read_60 ⟨M'.o, ?_⟩
        rw [x41, if_neg (by decide)]
        rintro _ rfl
        rw [fm.1]
        exact kB z lt g' f fm
    · rw [eo] at z x41 x2 x47 x48
      have M' : ShM g' := M2.same f.1.1 f.1.2.1
      refine ⟨M'.o, ?_⟩
      have n41 : ¬ hI g' 197 41 = 0 := by rw [x41]; rcases x2 with q | q <;> rw [q] <;> decide
      have p41 : 0 < hI g' 197 41 := by rw [x41]; rcases x2 with q | q <;> rw [q] <;> decide
      rw [if_neg n41]
      refine w_Mo_read_60 ⟨M'.o, ?_⟩
      rw [if_pos p41]
      rintro _ rfl _ rfl
      rw [show hI (sI (sI g' 197 10 (hI g' 197 47)) 197 11 (hI (sI g' 197 10 (hI g' 197 47)) 197 48)) 197 41 = o.1 + 1 by rw [hI_o (by omega), hI_o (by omega), x41]]
      exact kE z x2 _ (((g1.trans f.g).trans (MoG.s7 (by omega))).trans (MoG.s7 (by omega))) (by rw [hI_o (by omega), hI_s, x47]) (by rw [hI_s, hI_o (by omega), x48])
  have r21 : hR h19 2 1 = 5 := by rw [(re.1.1 2 (by decide)).1]; exact e1
  have r22 : hR h19 2 2 = 7 := by rw [(re.1.1 2 (by decide)).1]; exact e2
  have r24 : hR h19 2 4 = 11 := by rw [(re.1.1 2 (by decide)).1]; exact e4
  refine ⟨s2, w_Ff_demandFine ?_⟩
  by_cases z : o.1 = 0
  · rw [if_pos z]
    have rc19 := ro.1 z
    have B := rc19.bse R0
    have W19 := (R0.now rc19.1 rc19.2.2.2.1).2
    have m19 : Msg h19 L := re.msg mv.1 mv.2 MS
    have v19 : Vls h19 lv := re.vls e7 e8 VS
    refine ⟨sp, c_by B ?_⟩
    rw [r21, r22, r24, m19.1.2.2.2.2.1]
    refine ⟨s2, m19.1.1, ?_⟩
    have b : o.2.1 ≤ 8 * L := rc19.2.1.2
    have b2 : bfN o.2.1 ≤ 200 := by unfold bfN; omega
    by_cases lt : bfN o.2.1 < L
    · rw [if_pos ((iv_lt (by omega) (by omega)).mpr lt)]
      refine ⟨sp, c_by B ⟨s2, ?_⟩⟩
      rintro _ rfl _ rfl
      rw [hS_nw, if_pos rfl, if_neg (by decide), if_neg (by decide), if_neg (by decide), if_pos rfl]
      exact mod 4 11 (iv (bfN o.2.1)) (-1) (by decide) fun Q E k => beg _ _ E (fun _ _ g' f a b => k g' f a b) (fun _ q => absurd lt q) (fun q => absurd z q)
    · rw [if_neg (fun q => lt ((iv_lt (by omega) (by omega)).mp q))]
      refine ⟨v19.1.1, c_Lo_becomeLike v19.1 W19 (by decide) ?_⟩
      have r2 : hR (cL (sI h19 7 1 (iv o.2.2.1.length)) 12 0 8 0 o.2.2.1.length) 2 2 = 7 := r22
      have i7 : hI (cL (sI h19 7 1 (iv o.2.2.1.length)) 12 0 8 0 o.2.2.1.length) 7 1 = iv o.2.2.1.length := by rw [hI_cL, hI_s]
      rw [r2, i7]
      have w160 : o.2.2.1.length ≤ 160 := rc19.2.2.2.1.2.1
      refine ⟨s2, v19.1.1, wr (P := fun h8 => (Mid h h8 ∧ (hS h8 197).1 = 8) ∧ Ca (d + 40) m_Mo_read [.ref 197] h8 (QI fun b h2 => Res n h 0 b.toInt64 h2)) (by rw [hS_cL, hS_sI, (re.1.1 229 (by decide)).2]; exact I.s229) ?_⟩
      have E1 : RE cb h (sL (cL (sI h19 7 1 (iv o.2.2.1.length)) 12 0 8 0 o.2.2.1.length) 229 0 (iv o.2.2.1.length).toInt64) := re.vl ⟨hd.2.2.2, hd.2.1⟩
      refine ⟨⟨E1.mid, (E1.shM I).o⟩, beg _ _ E1 (fun _ q => absurd q lt) (fun _ _ g' f fm => ?_) (fun q => absurd z q)⟩
      have Mg : ShM (sI g' 197 9 (iv o.2.2.1.length)) := ((E1.shM I).same f.1.1 f.1.2.1 : ShM g')
      refine rd_copy (d := d + 39) (g0 := sI g' 197 9 (iv o.2.2.1.length)) Mg w160 hI_s (fun g o' cp' => ?_) o.2.2.1.length 0 _ (Nat.zero_add _) (OnL.refl _ _) (fun j hj => absurd hj (Nat.not_lt_zero _))
      have x8 : ∀ i, i < o.2.2.1.length → hL g 8 i = o.2.2.1.getD i 0 := fun i hi => by
        rw [o'.2.2.2.2.2.1 8 (by decide), hL_sI, f.2.2.2 8 (by omega), hL_sI, hL_ne (by decide), hL_cL, if_pos ⟨rfl, by omega, by omega⟩, hL_sI, Nat.sub_zero, Nat.zero_add]
        exact rc19.2.2.2.1.2.2 i hi
      have xI : ∀ a, ¬ a = 197 → hI g a = hI g' a := fun a q => by rw [o'.1, hI_ne q]
      have x7 : ∀ j, ¬ j = 9 → hI g 197 j = hI g' 197 j := fun j q => by rw [o'.1, hI_o (by omega)]
      have pg : PF cb g' g := ⟨fun c _ => ⟨by rw [o'.2.1, hR_sI], by rw [o'.2.2.1, hS_sI]⟩, fun a _ _ _ _ _ _ _ _ q => xI a q, by rw [xI 2 (by decide)], fun j hj => x7 j (by omega), fun a j q1 q2 _ => by rw [o'.2.2.2.2.2.1 a (by omega), hL_sI]⟩
      have f1 : MoG (sL (cL (sI h19 7 1 (iv o.2.2.1.length)) 12 0 8 0 o.2.2.1.length) 229 0 (iv o.2.2.1.length).toInt64) g' := (MoG.s7 (Or.inl rfl)).trans f.g
      have p1' := f1.pf (cb := cb) hd.2.1
      have pa := E1.1.trans (p1'.trans pg)
      have I7 : hI g' 7 = hI (sL (cL (sI h19 7 1 (iv o.2.2.1.length)) 12 0 8 0 o.2.2.1.length) 229 0 (iv o.2.2.1.length).toInt64) 7 := f1.2.1 7 (by decide) (by decide)
      have lg : Lo h19 g := fun c hc => by rw [(pg.1 c hc).1, (pg.1 c hc).2, (p1'.1 c hc).1, (p1'.1 c hc).2]; exact ⟨rfl, rfl⟩
      have e5 : ∀ a, a = 5 ∨ a = 6 ∨ a = 9 ∨ a = 11 ∨ a = 2 → hI g a = hI h19 a := fun a q => by
        rw [xI a (by omega), f1.2.1 a (by omega) (by omega), hI_sL, hI_cL, hI_ne (by omega)]
      have e7' : hI g 197 7 = hI h19 197 7 := by
        rw [x7 7 (by decide), f1.2.2.1 7 (by omega), hI_sL, hI_cL, hI_ne (by decide)]
      have e200 : hI g 200 = hI h19 200 := by
        rw [xI 200 (by decide), f1.2.1 200 (by decide) (by decide), hI_sL, hI_cL, hI_ne (by decide)]
      have ex : ∀ j, j = 0 ∨ j = 10 ∨ j = 11 → hI g 197 j = hI (sI (sL (cL (sI h19 7 1 (iv o.2.2.1.length)) 12 0 8 0 o.2.2.1.length) 229 0 (iv o.2.2.1.length).toInt64) 197 0 0) 197 j := fun j hj => by
        rw [x7 j (by omega), f.2.2.1 j (by omega)]
      have ex2 : ∀ j, j = 10 ∨ j = 11 → hI g 197 j = hI h 197 j := fun j hj => by
        rw [ex j (by omega), hI_o (by omega), hI_sL, hI_cL, hI_ne (by decide), (re.2.2 197 (by decide) (by decide)).1]
      have b1 : hN h ≤ hN g := by rw [o'.2.2.2.1, hN_sI, f.1.2.2.1]; show hN h ≤ hN h19; omega
      have b2 : hN g ≤ hN h + 4 := by rw [o'.2.2.2.1, hN_sI, f.1.2.2.1]; show hN h19 ≤ _; omega
      have b3 : hU g ≤ hU h + 60 := by rw [o'.2.2.2.2.1, hU_sI, f.1.2.2.2]; show hU h19 ≤ _; omega
      have b4 : hI g 2 8 = hI g 197 10 := by rw [e5 2 (by omega), ex2 10 (by omega), e22]; exact F.1.2.1
      have b5 : hI g 2 9 = hI g 197 11 := by rw [e5 2 (by omega), ex2 11 (by omega), e22]; exact F.1.2.2
      obtain ⟨r1, r2⟩ := PF.inv I pa ⟨b1, b2, b3⟩ ⟨L, m19.mono lg (by rw [e5 5 (by omega)]) (e5 6 (by omega)) e7' e200⟩ ⟨o.2.2.1.length, v19.1.len lg (by decide) (by decide) (by rw [xI 7 (by decide), I7, hI_sL, i7]) w160, by rw [o'.1, hI_s], fun i hi => by rw [x8 i hi, cp' i hi, hL_sI]; exact (fm.2.2 i hi).symm⟩ (re.2.1.1.elim fun t B => ⟨t, B.cp lg (by decide) (by decide) (e5 9 (by omega))⟩) ⟨_, W19.cp lg (by decide) (by decide) (e5 11 (by omega))⟩ ⟨b4, b5⟩
      exact ⟨r1, ⟨db, cb, r2⟩, by rw [ex 0 (Or.inl rfl), hI_s], fun _ => by rw [o'.2.2.2.2.2.1 229 (by decide), hL_sI, f.2.2.2 229 (by omega), hL_sI, hL_s]⟩
  · rw [if_neg z]
    refine ⟨Or.inl sp, s2, ?_⟩
    rintro _ rfl _ rfl
    have en : hI (sI h19 2 8 (hI h19 p 1)) p 2 = o.2.2.2.2.2 := by rw [hI_ne (by omega)]; exact ro.2.2.1.2
    rw [en, show hI h19 p 1 = o.2.2.2.2.1 from ro.2.2.1.1]
    have k : ∀ (e : Int32) (cl : Nat), ¬ e = 0 → ((o.1 + 1 = 2 ∨ o.1 + 1 = 3) → o.1 + 1 = e) → _ := fun e cl e0 he => mod e cl o.2.2.2.2.1 o.2.2.2.2.2 e0 fun Q E k => beg _ _ E (fun q => absurd q z) (fun q => absurd q z) fun _ x2 g' f a b => by rw [he x2]; exact k g' f a b
    by_cases y : o.1 = 1
    · rw [if_pos y, hS_nw, if_pos rfl, if_neg (by decide), if_pos rfl]
      exact k 2 13 (by decide) fun _ => by rw [y]; rfl
    · rw [if_neg y, hS_nw, if_pos rfl, if_neg (by decide), if_neg (by decide), if_pos rfl]
      refine k 3 10 (by decide) fun q => q.resolve_left fun q => y ?_
      have : o.1 = o.1 + 1 - 1 := by rw [Int32.add_sub_cancel]
      rw [this, q]; rfl
end OPR
