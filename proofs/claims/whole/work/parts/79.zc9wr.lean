/-! writing -/
abbrev wr0 : Ps Wo := (0, (0, fun _ => 0), fun _ => none, -1, -1)
section OPW
variable {d n db cb p : Nat} {h h' : Hp}
/-- the Model's writing -/
theorem m_write {K : Hp → Prop} {g : Hp} {t : Nat → Int32} {N L : Nat} {S : Tb} {V : Nat → Int64} (M : ShM g) (Sr : Src g 1 t N) (e : pT t 5 0 0 (-1) (-1) (-1) (0, sF0 g, fun _ => 0) = (N, some S)) (W : TW S) (s : Snd_ S) (vls : hI g 197 9 = iv L ∧ L ≤ 160 ∧ ∀ i, i < L → hL g 201 i = V i)
    (kF : (psF S (UWr V L S) spWr 5 0 wr0).1 = 0 → ∀ g', MoF g g' → hI g' 197 41 = 0 → hI g' 197 42 = iv (bfN (psF S (UWr V L S) spWr 5 0 wr0).2.1) → hI g' 197 46 = iv (psF S (UWr V L S) spWr 5 0 wr0).2.2.1.1 → (∀ i, i < bfN (psF S (UWr V L S) spWr 5 0 wr0).2.1 → hI g' 227 i = (psF S (UWr V L S) spWr 5 0 wr0).2.2.1.2 i) → K g')
    (kE : ¬ (psF S (UWr V L S) spWr 5 0 wr0).1 = 0 → ∀ g', MoF g g' → hI g' 197 41 = (psF S (UWr V L S) spWr 5 0 wr0).1 + 1 → ((psF S (UWr V L S) spWr 5 0 wr0).1 + 1 = 2 ∨ (psF S (UWr V L S) spWr 5 0 wr0).1 + 1 = 3) → hI g' 197 47 = (psF S (UWr V L S) spWr 5 0 wr0).2.2.2.2.1 → hI g' 197 48 = (psF S (UWr V L S) spWr 5 0 wr0).2.2.2.2.2 → K g') : Ca (d + 16) m_Mo_pass [.ref 197, .int 1] g (QV K) := by
  refine m_pass (d := d) (Or.inr rfl) M Sr e W s fun g0 f T A e40 e41 e42 e43 e46 e39 e47 => ?_
  have R0 : Wm0 L V S g0 := ⟨⟨T, A⟩, ⟨by rw [f.2.2.1 9 (by omega)]; exact vls.1, vls.2.1, fun i hi => by rw [f.2.2.2 201 (by omega)]; exact vls.2.2 i hi⟩, e40⟩
  have ry : RyW L S g0 wr0 g0 := ⟨⟨MdF.refl g0, e41, ⟨e42, by decide⟩, e47, ⟨e46, Nat.zero_le _⟩, fun i hi => absurd hi (Nat.not_lt_zero _), fun q v hq => (by cases hq)⟩, rfl, Or.inl e43⟩
  refine r_top W s (lv_top e) sok_wr (uok_wr W) (wr_mh R0 W) ry e39 (fun z g' y => ?_) fun z g' y => ?_
  · exact kF z g' (f.trans (MoF.mdf y.1.1)) y.1.2.1 y.1.2.2.1.1 y.1.2.2.2.2.1.1 y.1.2.2.2.2.2.1
  · exact kE z g' (f.trans (MoF.mdf y.1.1)) y.1.2.1.1 y.1.2.1.2 y.1.2.2.1 y.1.2.2.2
def OnI (a : Nat) (g0 g : Hp) : Prop := hL g = hL g0 ∧ hR g = hR g0 ∧ hS g = hS g0 ∧ hN g = hN g0 ∧ hU g = hU g0 ∧ (∀ b, ¬ b = a → hI g b = hI g0 b)
theorem OnI.refl (a : Nat) (g : Hp) : OnI a g g := ⟨rfl, rfl, rfl, rfl, rfl, fun _ _ => rfl⟩
theorem OnI.sI {a : Nat} {g0 g : Hp} (o : OnI a g0 g) (j : Nat) (v : Int32) : OnI a g0 (sI g a j v) := ⟨o.1, o.2.1, o.2.2.1, o.2.2.2.1, o.2.2.2.2.1, fun b hb => by rw [hI_ne hb]; exact o.2.2.2.2.2 b hb⟩
theorem wr_copy {K : Int32 → Hp → Prop} {g0 : Hp} {m : Nat} (M : ShM g0) (hm : m ≤ 120) (e7 : hI g0 197 7 = iv m) (kk : ∀ g, OnI 200 g0 g → (∀ j, j < m → hI g 200 j = hI g0 227 j) → K (iv m) g) : ∀ (r k : Nat) (g : Hp), k + r = m → OnI 200 g0 g → (∀ j, j < k → hI g 200 j = hI g0 227 j) → Wp (d + 1) m_Mo_write 82 [some (.ref 197), some (.int (iv k))] [] g (QI K)
  | 0, k, g, e, o, hl => by
    refine w_Mo_write_82 ⟨by rw [o.2.2.1]; exact M.o, ?_⟩
    rw [o.2.2.2.2.2 197 (by decide), e7, if_neg (fun q => by have := (iv_lt (by omega) (by omega)).mp q; omega)]
    exact kk g o fun j hj => hl j (by omega)
  | r + 1, k, g, e, o, hl => by
    refine w_Mo_write_82 ⟨by rw [o.2.2.1]; exact M.o, ?_⟩
    rw [o.2.2.2.2.2 197 (by decide), e7, if_pos ((iv_lt (by omega) (by omega)).mpr (by omega)), o.2.1, M.r6, M.r44, o.2.2.1, M.s200, M.s227, iv_clamp (by omega)]
    refine ⟨rfl, ainr_iv (by omega) (by omega), rfl, by decide, ainr_iv (by omega) (by omega), ?_⟩
    rintro _ rfl _ rfl
    rw [iv1, iv_add]
    refine wr_copy M hm e7 kk r (k + 1) _ (by omega) (o.sI _ _) fun j hj => ?_
    by_cases c : j = k
    · rw [c, hI_s, o.2.2.2.2.2 227 (by decide)]
    · rw [hI_o (fun q => c q.2)]; exact hl j (by omega)
/-- the heap at the writing's begin -/
def wrH (h : Hp) (p : Nat) : Hp := sL (sI (sR (sR (sI (sI (sI (hNew (sI h 9 1 (iv 0)) 6 0 7) p 0 0) p 1 (-1)) p 2 (-1)) p 3 7) p 4 9) p 5 0) p 6 0
theorem wrH_sm (hp : p = hN h) {a : Nat} (h1 : ¬ a = p) (h2 : ¬ a = 9) : Sm h (wrH h p) a :=
  ((((((((Sm.sI h2).trans (Sm.nw (show ¬ a = hN (sI h 9 1 (iv 0)) by rw [hN_sI]; omega))).trans (Sm.sI h1)).trans (Sm.sI h1)).trans (Sm.sI h1)).trans (Sm.sR h1)).trans (Sm.sR h1)).trans (Sm.sI h1)).trans (Sm.sL h1)
theorem wrH_9 (hp : p = hN h) (h11 : ¬ 9 = p) (j : Nat) : hI (wrH h p) 9 j = if j = 1 then iv 0 else hI h 9 j := by
  unfold wrH
  rw [hI_sL, hI_ne h11, hI_sR, hI_sR, hI_ne h11, hI_ne h11, hI_ne h11, hI_nwne (show ¬ 9 = hN (sI h 9 1 (iv 0)) by rw [hN_sI]; omega), hI_sI]
  by_cases c : j = 1
  · rw [if_pos ⟨rfl, c⟩, if_pos c]
  · rw [if_neg (fun q => c q.2), if_neg c]
theorem wrH_9r (hp : p = hN h) (h11 : ¬ 9 = p) : hL (wrH h p) 9 = hL h 9 ∧ hR (wrH h p) 9 = hR h 9 ∧ hS (wrH h p) 9 = hS h 9 := by
  unfold wrH
  refine ⟨?_, ?_, ?_⟩
  · rw [hL_ne h11, hL_sI, hL_sR, hL_sR, hL_sI, hL_sI, hL_sI, hL_nwne (show ¬ 9 = hN (sI h 9 1 (iv 0)) by rw [hN_sI]; omega), hL_sI]
  · rw [hR_sL, hR_sI, hR_ne h11, hR_ne h11, hR_sI, hR_sI, hR_sI, hR_nwne (show ¬ 9 = hN (sI h 9 1 (iv 0)) by rw [hN_sI]; omega), hR_sI]
  · rw [hS_sL, hS_sI, hS_sR, hS_sR, hS_sI, hS_sI, hS_sI, hS_nw, if_neg (show ¬ 9 = hN (sI h 9 1 (iv 0)) by rw [hN_sI]; omega), hS_sI]
theorem wrH_p (hp : p = hN h) : hS (wrH h p) p = (6, 0) ∧ hR (wrH h p) p 3 = 7 ∧ hR (wrH h p) p 4 = 9 ∧ hI (wrH h p) p 0 = 0 ∧ (hI (wrH h p) p 1 = -1 ∧ hI (wrH h p) p 2 = -1) ∧ hI (wrH h p) p 5 = 0 := by
  unfold wrH
  refine ⟨?_, ?_, ?_, ?_, ⟨?_, ?_⟩, ?_⟩
  · rw [hS_sL, hS_sI, hS_sR, hS_sR, hS_sI, hS_sI, hS_sI, hS_nw, if_pos (show p = hN (sI h 9 1 (iv 0)) from hp)]
  · rw [hR_sL, hR_sI, hR_o (by omega), hR_s]
  · rw [hR_sL, hR_sI, hR_s]
  · rw [hI_sL, hI_o (by omega), hI_sR, hI_sR, hI_o (by omega), hI_o (by omega), hI_s]
  · rw [hI_sL, hI_o (by omega), hI_sR, hI_sR, hI_o (by omega), hI_s]
  · rw [hI_sL, hI_o (by omega), hI_sR, hI_sR, hI_s]
  · rw [hI_sL, hI_s]
theorem wr_re (I : Inv n db cb h) (hp : p = hN h) {h1 : Hp} (f : WrF p cb (wrH h p) h1) (lg : ∃ n, Byt h1 9 10 n 120) : RE cb h h1 ∧ ((hI h1 5 = hI h 5 ∧ hI h1 6 = hI h 6) ∧ hI h1 7 = hI h 7 ∧ hL h1 8 = hL h 8) ∧ hI h1 2 = hI h 2 := by
  have hd := I.dd
  have i1 := I.1
  have sm : ∀ a, ¬ a = p → ¬ a = 9 → Sm h (wrH h p) a := fun a q1 q2 => wrH_sm hp q1 q2
  obtain ⟨⟨f1, f2, f3, f4, f5⟩, f6, f7, f8, f9⟩ := f
  have eI : ∀ a, ¬ a = p → ¬ a = 9 → ¬ a = 10 → hI h1 a = hI h a := fun a q1 q2 q3 => (f6 a q1 q2 q3).trans (sm a q1 q2).1
  have eL : ∀ a, a < 231 → ¬ (cb + 2 ≤ a ∧ a < cb + 92) → hL h1 a = hL h a := fun a q1 q3 => by
    rw [f8 a (by omega) q3]
    by_cases c : a = 9
    · rw [c]; exact (wrH_9r hp (by omega)).1
    · exact (sm a (by omega) c).2.1
  have lo : Lo h h1 := fun c hc => by
    rw [f1, f2]
    by_cases e : c = 9
    · rw [e]; exact (wrH_9r hp (by omega)).2
    · exact ⟨(sm c (by omega) e).2.2.1, (sm c (by omega) e).2.2.2.2⟩
  refine ⟨⟨⟨lo, fun a q1 _ _ _ _ q9 q10 _ _ => eI a (by omega) q9 q10, by rw [eI 2 (by omega) (by decide) (by decide)], fun j _ => by rw [eI 197 (by omega) (by decide) (by decide)], fun a j q1 q2 q3 => ?_⟩, ⟨lg, I.2.2.1.2.2.2.2.elim fun t B => ⟨t, B.cp lo (by decide) (by decide) (eI 11 (by omega) (by decide) (by decide))⟩⟩, fun a q1 q2 => ⟨eI a (by omega) (by omega) (by omega), eL a (by omega) (by omega)⟩⟩, ⟨⟨eI 5 (by omega) (by decide) (by decide), eI 6 (by omega) (by decide) (by decide)⟩, eI 7 (by omega) (by decide) (by decide), eL 8 (by decide) (by omega)⟩, eI 2 (by omega) (by decide) (by decide)⟩
  rw [f9 a j (by omega) q3, (sm a (by omega) (by omega)).2.1]
theorem RE.ms {h1 : Hp} (E : RE cb h h1) (hd : 13 ≤ cb ∧ cb + 92 ≤ 197) {v : Int32} {k : Nat} {X : Int64} : RE cb h (sL (cI (sI h1 5 1 v) 10 0 6 0 k) 229 0 X) := by
  have lo : Lo h1 (sL (cI (sI h1 5 1 v) 10 0 6 0 k) 229 0 X) := fun _ _ => ⟨rfl, rfl⟩
  have eI : ∀ a, ¬ a = 5 → ¬ a = 6 → hI (sL (cI (sI h1 5 1 v) 10 0 6 0 k) 229 0 X) a = hI h1 a := fun a q q6 => by rw [hI_sL, (Sm.cI q6).1, hI_ne q]
  have eL : ∀ a, ¬ a = 229 → hL (sL (cI (sI h1 5 1 v) 10 0 6 0 k) 229 0 X) a = hL h1 a := fun a q2 => by
    rw [hL_ne q2, hL_cI, hL_sI]
  exact ⟨E.1.trans ⟨lo, fun a _ _ q5 q6 _ _ _ _ _ => eI a q5 q6, by rw [eI 2 (by decide) (by decide)], fun j _ => by rw [eI 197 (by decide) (by decide)], fun a j q1 q2 _ => by rw [eL a (by omega)]⟩, ⟨E.2.1.1.elim fun t B => ⟨t, B.cp lo (by decide) (by decide) (eI 9 (by decide) (by decide))⟩, E.2.1.2.elim fun t B => ⟨t, B.cp lo (by decide) (by decide) (eI 11 (by decide) (by decide))⟩⟩, fun a q1 q2 => ⟨by rw [eI a (by omega) (by omega)]; exact (E.2.2 a q1 q2).1, by rw [eL a (by omega)]; exact (E.2.2 a q1 q2).2⟩⟩
theorem op_write (I : Inv n db cb h) (hn : n ≤ 600) : Ca (d + 40) m_La_write [.ref 2, .ref 229] h (QI fun v h1 => (Mid h h1 ∧ (hS h1 197).1 = 8) ∧ Ca (d + 40) m_Mo_write [.ref 197] h1 (QI fun b h2 => Res n h v b.toInt64 h2)) := by
  have hd := I.dd
  have i1 := I.1
  have F := I.2.2.2.1
  have e1 : hR h 2 1 = 5 := I.2.1.1.2.1.2.1
  have e2 : hR h 2 2 = 7 := I.2.1.1.2.1.2.2.1
  have e3 : hR h 2 3 = 9 := I.2.1.1.2.1.2.2.2.1
  have e6 : hR h 2 6 = cb := I.2.1.1.2.1.2.2.2.2.2.2
  refine w_La_write ⟨I.s2, w_Ff_write ⟨I.s2, w_Ff_demandCompiled ⟨I.s2, ?_⟩⟩⟩
  by_cases c0 : hI h 2 7 = 0
  · rw [if_pos c0]
    refine ⟨I.room6 hn, ?_⟩
    rw [hS_nw, if_pos rfl, if_pos rfl]
    refine ⟨⟨I.excMid 12, I.exc8 12⟩, w_Mo_write ⟨I.exc8 12, ?_⟩⟩
    rintro _ rfl
    rw [hI_o (by omega), hI_nwne (by omega), ← F.1.1, if_pos c0]
    refine w_Mo_fail ⟨I.exc8 12, ?_⟩
    rintro _ rfl
    exact Res.exc I 12 (by decide)
  have c1 : hI h 2 7 = 1 := F.2.resolve_left c0
  rw [if_neg c0]
  obtain ⟨t, N, Sr, c⟩ := I.2.2.2.2 c1
  obtain ⟨S, p1, s, cp⟩ := c (sF0 h) (fun _ => 0)
  have W : TW S := tw_top (Src.all Sr) p1 Sr.1.1
  obtain ⟨-, ⟨L, MS⟩, ⟨lv, VS⟩, ⟨mb, BT⟩, -⟩ := I.2.2.1
  have l160 : lv ≤ 160 := VS.1.2.2.2.2.2.1
  rw [e3]
  refine ⟨I.s2, BT.1, c_By_forgetAll BT ⟨room_of (by rw [cN_]; show hN h < _; omega) (by rw [cU_]; show hU h + _ ≤ _; omega), ?_⟩⟩
  rintro p hp' _ rfl
  have hp : p = hN h := hp'
  have h2p : ¬ 2 = p := by omega
  have n2 : ¬ 2 = hN (sI h 9 1 (iv 0)) := by rw [hN_sI]; omega
  have r2 : hR (hNew (sI h 9 1 (iv 0)) 6 0 7) 2 2 = 7 := by rw [hR_nwne n2]; exact e2
  have r3 : hR (hNew (sI h 9 1 (iv 0)) 6 0 7) 2 3 = 9 := by rw [hR_nwne n2]; exact e3
  have s27 : (hS (hNew (sI h 9 1 (iv 0)) 6 0 7) 2).1 = 7 := by rw [hS_nw, if_neg n2]; exact I.s2
  have sp5 : (hS (hNew (sI h 9 1 (iv 0)) 6 0 7) p).1 = 6 := by rw [hS_nw, if_pos hp']
  rw [r2, r3]
  refine ⟨s27, sp5, w_Wr_init ⟨Or.inr sp5, w_Co_init ⟨by omega, Or.inr sp5, ?_⟩⟩⟩
  rintro _ rfl _ rfl _ rfl
  refine ⟨sp5, ?_⟩
  rintro _ rfl _ rfl _ rfl _ rfl
  obtain ⟨q1, q2, q3, q4, q5, q6⟩ := wrH_p hp
  have sm : ∀ a, ¬ a = p → ¬ a = 9 → Sm h (wrH h p) a := fun a q1 q2 => wrH_sm hp q1 q2
  have e11 := wrH_9 hp (show ¬ 9 = p by omega)
  have r11 := wrH_9r hp (show ¬ 9 = p by omega)
  have hN1 : hN (wrH h p) = hN h + 1 := rfl
  have hU1 : hU (wrH h p) = hU h + 7 := rfl
  show (hS (wrH h p) 2).1 = 7 ∧ (hS (wrH h p) p).1 = 6 ∧ Ca (d + 38) m_Co_pass [.ref p, .ref (hR (wrH h p) 2 6)] (wrH h p) _
  have lo : Lo h (wrH h p) := fun c hc => by
    by_cases e : c = 9
    · rw [e]; exact r11.2
    · exact ⟨(sm c (by omega) e).2.2.1, (sm c (by omega) e).2.2.2.2⟩
  have Fc : Fmt (wrH h p) cb := (I.2.1.1.2.2.1.2).lo lo (by omega)
  have cp1 : CpT (wrH h p) cb S := cp.mono (by rw [(sm cb (by omega) (by omega)).1]) fun k hk => ⟨(sm _ (by omega) (by omega)).1, (sm _ (by omega) (by omega)).2.2.1, fun j _ => by rw [(sm _ (by omega) (by omega)).2.1]⟩
  have BT1 : Byt (wrH h p) 9 10 0 120 := BT.len lo (by decide) (by decide) (by rw [e11, if_pos rfl]) (by decide)
  have R0 : Wr0 p cb lv (fun i => hL h 8 i) S (wrH h p) := ⟨⟨by rw [q1], q2, q3, by omega⟩, ⟨cp1, Fc, hd.2.2.2, hd.2.1⟩, ⟨VS.1.cp lo (by decide) (by decide) (sm 7 (by omega) (by decide)).1, fun i hi => by rw [(sm 8 (by omega) (by decide)).2.1]⟩, ⟨0, BT1⟩⟩
  have rc : RcW p cb lv S (wrH h p) wr0 (wrH h p) := ⟨WrF.refl _ _ _, q4, q5, ⟨q6, Nat.zero_le _⟩, ⟨by rw [e11, if_pos rfl]; rfl, by decide, fun i hi => absurd hi (Nat.not_lt_zero _)⟩, fun q v hq => (by cases hq)⟩
  rw [(sm 2 h2p (by decide)).2.2.1, e6]
  refine ⟨by rw [(sm 2 h2p (by decide)).2.2.2.2]; exact I.s2, by rw [q1], w_Co_pass ⟨Fc.1, c_whole Fc cp1 W.2.1.1 ⟨Or.inr (by rw [q1]), ?_⟩⟩⟩
  refine c_top (d := d + 21) W s (lv_top p1) sok_wr (uok_wr W) (fun s' h' r => r.bse R0) (fun s' h' r => r.re R0) (wr_sp R0) (wr_un R0 W) (s := wr0) rfl rc ?_
  generalize eo : psF S (UWr (fun i => hL h 8 i) lv S) spWr 5 0 wr0 = o
  intro h19 ro
  obtain ⟨re, ⟨mv, e7, e8⟩, e22⟩ := wr_re I hp ro.2.1 ro.2.2.2
  have s2 : (hS h19 2).1 = 7 := by rw [(re.1.1 2 (by decide)).2]; exact I.s2
  have sp : (hS h19 p).1 = 6 := by rw [ro.2.1.1.2.1, q1]
  have hN19 : hN h19 = hN h + 1 := by rw [ro.2.1.1.2.2.1]; rfl
  have hU19 : hU h19 = hU h + 7 := by rw [ro.2.1.1.2.2.2.1]; rfl
  have m19 : Msg h19 L := re.msg mv.1 mv.2 MS
  have v19 : Vls h19 lv := re.vls e7 e8 VS
  -- the Model's beginning, from what the class leaves
  have beg : ∀ (h1 : Hp) (Q : Int32 → Hp → Prop), RE cb h h1 → (o.1 = 0 → o.2.2.1.1 < lv → ∀ g', MoG h1 g' → hI g' 197 10 = hI h 197 10 → hI g' 197 11 = hI h 197 11 → Ca (d + 39) m_Mo_fail [.ref 197, .int 4] g' (QI Q)) → (o.1 = 0 → ¬ o.2.2.1.1 < lv → ∀ g', MoF (sI h1 197 0 0) g' → (∀ i, i < bfN o.2.1 → hI g' 227 i = o.2.2.1.2 i) → Wp (d + 40) m_Mo_write 82 [some (.ref 197), some (.int (0 : Int32))] [] (sI g' 197 7 (iv (bfN o.2.1))) (QI Q)) → (¬ o.1 = 0 → (o.1 + 1 = 2 ∨ o.1 + 1 = 3) → ∀ g', MoG h1 g' → hI g' 197 10 = o.2.2.2.2.1 → hI g' 197 11 = o.2.2.2.2.2 → Ca (d + 39) m_Mo_fail [.ref 197, .int (o.1 + 1)] g' (QI Q)) → Ca (d + 40) m_Mo_write [.ref 197] h1 (QI Q) := by
    intro h1 Q E kA kB kE
    obtain ⟨M2, Sr2, eF, f5⟩ := E.mo I c1 Sr
    refine w_Mo_write ⟨(E.shM I).o, ?_⟩
    rintro _ rfl
    rw [f5, if_neg (by decide)]
    have g1 : MoG h1 (sI h1 197 0 0) := MoG.s7 (Or.inl rfl)
    have ms : hI (sI h1 197 0 0) 197 9 = iv lv := by rw [hI_o (by omega), (E.2.2 197 (by decide) (by decide)).1]; exact VS.2.1
    have mm : ∀ i, i < lv → hL (sI h1 197 0 0) 201 i = hL h 8 i := fun i hi => by
      rw [hL_sI, (E.2.2 201 (by decide) (by decide)).2]
      exact (VS.2.2 i hi).symm
    have e10 : ∀ j, j = 10 ∨ j = 11 → hI (sI h1 197 0 0) 197 j = hI h 197 j := fun j hj => by rw [hI_o (by omega), (E.2.2 197 (by decide) (by decide)).1]
    refine m_write (d := d + 23) (V := fun i => hL h 8 i) M2 Sr2 (by rw [eF]; exact p1) W s ⟨ms, l160, mm⟩ (fun z g' f x41 x42 x46 fm => ?_) fun z g' f x41 x2 x47 x48 => ?_
    · rw [eo] at z x42 x46 fm
      have M' : ShM g' := M2.same f.1.1 f.1.2.1
      refine ⟨M'.o, ?_⟩
      have tl : o.2.2.1.1 ≤ lv := (ro.1 z).2.2.2.1.2
      rw [x41, if_neg (by decide), x46, f.2.2.1 9 (by omega), ms]
      by_cases lt : o.2.2.1.1 < lv
      · rw [if_pos ((iv_lt (by omega) (by omega)).mpr lt)]
        exact kA z lt g' (g1.trans f.g) (by rw [f.2.2.1 10 (by omega), e10 10 (by omega)]) (by rw [f.2.2.1 11 (by omega), e10 11 (by omega)])
      · rw [if_neg (fun q => lt ((iv_lt (by omega) (by omega)).mp q)), x42]
        rintro _ rfl
        exact kB z lt g' f fm
    · rw [eo] at z x41 x2 x47 x48
      have M' : ShM g' := M2.same f.1.1 f.1.2.1
      refine ⟨M'.o, ?_⟩
      have p41 : 0 < hI g' 197 41 := by rw [x41]; rcases x2 with q | q <;> rw [q] <;> decide
      rw [if_pos p41]
      rintro _ rfl _ rfl
      rw [show hI (sI (sI g' 197 10 (hI g' 197 47)) 197 11 (hI (sI g' 197 10 (hI g' 197 47)) 197 48)) 197 41 = o.1 + 1 by rw [hI_o (by omega), hI_o (by omega), x41]]
      exact kE z x2 _ (((g1.trans f.g).trans (MoG.s7 (by omega))).trans (MoG.s7 (by omega))) (by rw [hI_o (by omega), hI_s, x47]) (by rw [hI_s, hI_o (by omega), x48])
  -- the Model's part of a refusal
  have mod : ∀ (e : Int32) (cl : Nat) (a b : Int32), ¬ e = 0 → (∀ Q : Int32 → Hp → Prop, RE cb h (hNew (sI (sI h19 2 8 a) 2 9 b) cl 0 6) → (∀ g', MoG (hNew (sI (sI h19 2 8 a) 2 9 b) cl 0 6) g' → hI g' 197 10 = a → hI g' 197 11 = b → Ca (d + 39) m_Mo_fail [.ref 197, .int e] g' (QI Q)) → Ca (d + 40) m_Mo_write [.ref 197] (hNew (sI (sI h19 2 8 a) 2 9 b) cl 0 6) (QI Q)) → room (sI (sI h19 2 8 a) 2 9 b) 6 = true ∧ (Mid h (hNew (sI (sI h19 2 8 a) 2 9 b) cl 0 6) ∧ (hS (hNew (sI (sI h19 2 8 a) 2 9 b) cl 0 6) 197).1 = 8) ∧ Ca (d + 40) m_Mo_write [.ref 197] (hNew (sI (sI h19 2 8 a) 2 9 b) cl 0 6) (QI fun b h2 => Res n h e b.toInt64 h2) := by
    intro e cl a b e0 k
    have n231 : 231 ≤ hN (sI (sI h19 2 8 a) 2 9 b) := by show 231 ≤ hN h19; omega
    have E1 : RE cb h (hNew (sI (sI h19 2 8 a) 2 9 b) cl 0 6) := ((re.sp (by decide)).sp (by decide)).nw n231 hd.2.1
    have n9 : ∀ x : Nat, x < 231 → ¬ x = hN (sI (sI h19 2 8 a) 2 9 b) := fun x hx => by omega
    have m1 : Msg (hNew (sI (sI h19 2 8 a) 2 9 b) cl 0 6) L := E1.msg (by rw [hI_nwne (n9 5 (by decide)), hI_ne (by decide), hI_ne (by decide)]; exact mv.1) (by rw [hI_nwne (n9 6 (by decide)), hI_ne (by decide), hI_ne (by decide)]; exact mv.2) MS
    have v1 : Vls (hNew (sI (sI h19 2 8 a) 2 9 b) cl 0 6) lv := E1.vls (by rw [hI_nwne (n9 7 (by decide)), hI_ne (by decide), hI_ne (by decide)]; exact e7) (by rw [hL_nwne (n9 8 (by decide))]; exact e8) VS
    refine ⟨room_of (by rw [cN_]; show hN h19 < _; omega) (by rw [cU_]; show hU h19 + _ ≤ _; omega), ⟨E1.mid, (E1.shM I).o⟩, k _ E1 fun g' f a1 b1 => ?_⟩
    refine E1.fail I ⟨?_, ?_, ?_⟩ f ⟨L, m1⟩ ⟨lv, v1⟩ e0 ⟨?_, ?_⟩
    · show hN h ≤ hN h19 + 1; omega
    · show hN h19 + 1 ≤ _; omega
    · show hU h19 + 6 ≤ _; omega
    · rw [a1, hI_nwne (n9 2 (by decide)), hI_o (by omega), hI_s]
    · rw [b1, hI_nwne (n9 2 (by decide)), hI_s]
  have r21 : hR h19 2 1 = 5 := by rw [(re.1.1 2 (by decide)).1]; exact e1
  have r22 : hR h19 2 2 = 7 := by rw [(re.1.1 2 (by decide)).1]; exact e2
  have r23 : hR h19 2 3 = 9 := by rw [(re.1.1 2 (by decide)).1]; exact e3
  refine ⟨s2, w_Ff_demandFine ?_⟩
  by_cases z : o.1 = 0
  · rw [if_pos z]
    have rc19 := ro.1 z
    obtain ⟨R19, W19⟩ := rc19.now R0
    have tk : hI h19 p 5 = iv o.2.2.1.1 := rc19.2.2.2.1.1
    have tl : o.2.2.1.1 ≤ lv := rc19.2.2.2.1.2
    have b120 : bfN o.2.1 ≤ 120 := rc19.2.2.2.2.1.2.1
    rw [r21, r22, r23, v19.1.2.2.2.2.1, tk]
    refine ⟨sp, s2, v19.1.1, ?_⟩
    by_cases lt : o.2.2.1.1 < lv
    · rw [if_pos ((iv_lt (by omega) (by omega)).mpr lt)]
      have n231 : 231 ≤ hN h19 := by omega
      have E1 : RE cb h (hNew h19 11 0 6) := re.nw n231 hd.2.1
      have n9 : ∀ x : Nat, x < 231 → ¬ x = hN h19 := fun x hx => by omega
      have m1 : Msg (hNew h19 11 0 6) L := E1.msg (by rw [hI_nwne (n9 5 (by decide))]; exact mv.1) (by rw [hI_nwne (n9 6 (by decide))]; exact mv.2) MS
      have v1 : Vls (hNew h19 11 0 6) lv := E1.vls (by rw [hI_nwne (n9 7 (by decide))]; exact e7) (by rw [hL_nwne (n9 8 (by decide))]; exact e8) VS
      refine ⟨room_of (by rw [cN_]; omega) (by rw [cU_]; omega), ?_⟩
      rw [hS_nw, if_pos rfl, if_neg (by decide), if_neg (by decide), if_neg (by decide), if_pos rfl]
      refine ⟨⟨E1.mid, (E1.shM I).o⟩, beg _ _ E1 (fun _ _ g' f a b => ?_) (fun _ q => absurd lt q) (fun q => absurd z q)⟩
      have bn : Bn h (hNew h19 11 0 6) := ⟨by show hN h ≤ hN h19 + 1; omega, by show hN h19 + 1 ≤ _; omega, by show hU h19 + 6 ≤ _; omega⟩
      refine E1.fail I bn f ⟨L, m1⟩ ⟨lv, v1⟩ (by decide) ⟨?_, ?_⟩
      · rw [a, hI_nwne (n9 2 (by decide)), e22]; exact F.1.2.1
      · rw [b, hI_nwne (n9 2 (by decide)), e22]; exact F.1.2.2
    · rw [if_neg (fun q => lt ((iv_lt (by omega) (by omega)).mp q))]
      have W19 : Byt h19 9 10 (bfN o.2.1) 120 := W19
      refine ⟨m19.1.1, c_By_becomeLike m19.1 W19 (by decide) ?_⟩
      have r2 : hR (cI (sI h19 5 1 (iv (bfN o.2.1))) 10 0 6 0 (bfN o.2.1)) 2 1 = 5 := r21
      have i5 : hI (cI (sI h19 5 1 (iv (bfN o.2.1))) 10 0 6 0 (bfN o.2.1)) 5 1 = iv (bfN o.2.1) := by rw [hI_cI, if_neg (by omega), hI_s]
      rw [r2, i5]
      refine ⟨s2, m19.1.1, wr (P := fun h8 => (Mid h h8 ∧ (hS h8 197).1 = 8) ∧ Ca (d + 40) m_Mo_write [.ref 197] h8 (QI fun b h2 => Res n h 0 b.toInt64 h2)) (by rw [hS_cI, hS_sI, (re.1.1 229 (by decide)).2]; exact I.s229) ?_⟩
      have E1 : RE cb h (sL (cI (sI h19 5 1 (iv (bfN o.2.1))) 10 0 6 0 (bfN o.2.1)) 229 0 (iv (bfN o.2.1)).toInt64) := re.ms ⟨hd.2.2.2, hd.2.1⟩
      refine ⟨⟨E1.mid, (E1.shM I).o⟩, beg _ _ E1 (fun _ q => absurd q lt) (fun _ _ g' f fm => ?_) (fun q => absurd z q)⟩
      have Mg : ShM (sI g' 197 7 (iv (bfN o.2.1))) := ((E1.shM I).same f.1.1 f.1.2.1 : ShM g')
      refine wr_copy (d := d + 39) (g0 := sI g' 197 7 (iv (bfN o.2.1))) Mg b120 hI_s (fun g o' cp' => ?_) (bfN o.2.1) 0 _ (Nat.zero_add _) (OnI.refl _ _) (fun j hj => absurd hj (Nat.not_lt_zero _))
      have xI : ∀ a, ¬ a = 197 → ¬ a = 200 → hI g a = hI g' a := fun a q q2 => by rw [o'.2.2.2.2.2 a q2, hI_ne q]
      have x7 : ∀ j, ¬ j = 7 → hI g 197 j = hI g' 197 j := fun j q => by rw [o'.2.2.2.2.2 197 (by decide), hI_o (by omega)]
      have x6 : ∀ i, i < bfN o.2.1 → hI g 6 i &&& 255 = o.2.2.1.2 i := fun i hi => by
        rw [xI 6 (by decide) (by decide), f.2.1 6 (by decide) (by decide), hI_ne (by decide), hI_sL, hI_cI, if_pos ⟨rfl, by omega, by omega⟩, hI_ne (by decide), Nat.sub_zero, Nat.zero_add]
        exact rc19.2.2.2.2.1.2.2 i hi
      have pg : PF cb g' g := ⟨fun c _ => ⟨by rw [o'.2.1, hR_sI], by rw [o'.2.2.1, hS_sI]⟩, fun a q1 _ _ _ _ _ _ _ q => xI a q (by omega), by rw [xI 2 (by decide) (by decide)], fun j hj => x7 j (by omega), fun a j q1 q2 _ => by rw [o'.1, hL_sI]⟩
      have f1 : MoG (sL (cI (sI h19 5 1 (iv (bfN o.2.1))) 10 0 6 0 (bfN o.2.1)) 229 0 (iv (bfN o.2.1)).toInt64) g' := (MoG.s7 (Or.inl rfl)).trans f.g
      have p1' := f1.pf (cb := cb) hd.2.1
      have pa := E1.1.trans (p1'.trans pg)
      have lg : Lo h19 g := fun c hc => by rw [(pg.1 c hc).1, (pg.1 c hc).2, (p1'.1 c hc).1, (p1'.1 c hc).2]; exact ⟨rfl, rfl⟩
      have eA : ∀ a, a = 7 ∨ a = 9 ∨ a = 11 ∨ a = 2 → hI g a = hI h19 a := fun a q => by
        rw [xI a (by omega) (by omega), f1.2.1 a (by omega) (by omega), hI_sL, (Sm.cI (show ¬ a = 6 by omega)).1, hI_ne (by omega)]
      have e5 : hI g 5 1 = iv (bfN o.2.1) := by
        rw [xI 5 (by decide) (by decide), f1.2.1 5 (by decide) (by decide), hI_sL, i5]
      have e9 : hI g 197 9 = hI h19 197 9 := by
        rw [x7 9 (by decide), f1.2.2.1 9 (by omega), hI_sL, (Sm.cI (show ¬ 197 = 6 by decide)).1, hI_ne (by decide)]
      have l8 : ∀ a, a = 8 ∨ a = 201 → hL g a = hL h19 a := fun a q => by
        rw [o'.1, hL_sI, f1.2.2.2 a (by omega), hL_ne (by omega), hL_cI, hL_sI]
      have ex : ∀ j, j = 0 ∨ j = 10 ∨ j = 11 → hI g 197 j = hI (sI (sL (cI (sI h19 5 1 (iv (bfN o.2.1))) 10 0 6 0 (bfN o.2.1)) 229 0 (iv (bfN o.2.1)).toInt64) 197 0 0) 197 j := fun j hj => by
        rw [x7 j (by omega), f.2.2.1 j (by omega)]
      have ex2 : ∀ j, j = 10 ∨ j = 11 → hI g 197 j = hI h 197 j := fun j hj => by
        rw [ex j (by omega), hI_o (by omega), hI_sL, (Sm.cI (show ¬ 197 = 6 by decide)).1, hI_ne (by decide), (re.2.2 197 (by decide) (by decide)).1]
      have b1 : hN h ≤ hN g := by rw [o'.2.2.2.1, hN_sI, f.1.2.2.1]; show hN h ≤ hN h19; omega
      have b2 : hN g ≤ hN h + 4 := by rw [o'.2.2.2.1, hN_sI, f.1.2.2.1]; show hN h19 ≤ _; omega
      have b3 : hU g ≤ hU h + 60 := by rw [o'.2.2.2.2.1, hU_sI, f.1.2.2.2]; show hU h19 ≤ _; omega
      have b4 : hI g 2 8 = hI g 197 10 := by rw [eA 2 (by omega), ex2 10 (by omega), e22]; exact F.1.2.1
      have b5 : hI g 2 9 = hI g 197 11 := by rw [eA 2 (by omega), ex2 11 (by omega), e22]; exact F.1.2.2
      have msg : Msg g (bfN o.2.1) := ⟨m19.1.len lg (by decide) (by decide) e5 b120, by rw [o'.2.2.2.2.2 197 (by decide), hI_s], fun i hi => by rw [x6 i hi, cp' i hi, hI_ne (by decide)]; exact (fm i hi).symm⟩
      obtain ⟨r1, r2⟩ := PF.inv I pa ⟨b1, b2, b3⟩ ⟨_, msg⟩ ⟨lv, v19.mono lg (by rw [eA 7 (by omega)]) (l8 8 (by omega)) e9 (l8 201 (by omega))⟩ ⟨_, W19.cp lg (by decide) (by decide) (eA 9 (by omega))⟩ (re.2.1.2.elim fun t B => ⟨t, B.cp lg (by decide) (by decide) (eA 11 (by omega))⟩) ⟨b4, b5⟩
      exact ⟨r1, ⟨db, cb, r2⟩, by rw [ex 0 (Or.inl rfl), hI_s], fun _ => by rw [o'.1, hL_sI, f.2.2.2 229 (by omega), hL_sI, hL_s]⟩
  · rw [if_neg z]
    refine ⟨Or.inr sp, s2, ?_⟩
    rintro _ rfl _ rfl
    have en : hI (sI h19 2 8 (hI h19 p 1)) p 2 = o.2.2.2.2.2 := by rw [hI_ne (by omega)]; exact ro.2.2.1.2
    rw [en, show hI h19 p 1 = o.2.2.2.2.1 from ro.2.2.1.1]
    have k : ∀ (e : Int32) (cl : Nat), ¬ e = 0 → ((o.1 + 1 = 2 ∨ o.1 + 1 = 3) → o.1 + 1 = e) → _ := fun e cl e0 he => mod e cl o.2.2.2.2.1 o.2.2.2.2.2 e0 fun Q E k => beg _ _ E (fun q => absurd q z) (fun q => absurd q z) fun _ x2 g' f a b => by rw [he x2]; exact k g' f a b
    by_cases y : o.1 = 1
    · rw [if_pos y, hS_nw, if_pos rfl, if_neg (by decide), if_pos rfl]
      exact k 2 13 (by decide) fun _ => by rw [y]; rfl
    · rw [if_neg y, hS_nw, if_pos rfl, if_neg (by decide), if_neg (by decide), if_pos rfl]
      refine k 3 10 (by decide) fun q => q.resolve_left fun q => y ?_
      have : o.1 = o.1 + 1 - 1 := by rw [Int32.add_sub_cancel]
      rw [this, q]; rfl
end OPW
