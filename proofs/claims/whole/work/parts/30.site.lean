section SITE
variable {p : Program} {l : Launch} {e : Env} {R : Room} {s : State} {mid : MethodId} {args : Array Value} {below : List Frame} {meth : Method} {c : Code} {H : Heap} {locs : List Loc} {cells slots : Nat} {Q : State → Prop}
variable {w : Wd} {m m' : Mr} {d pc : Nat} {hs h h' : Hp} {lc : Lc} {st as rs : List Value} {ls : Array Slot}
theorem pnum_len {y : MethodName} {n : Nat} (h : pnum y = some n) (sig : MethodDescriptor) (hs : parseMethodDescriptor y.desc = some sig) : n = sig.parameters.length := by
  unfold pnum at h
  rw [hs] at h
  simpa using h.symm
theorem args_sp {n : Nat} (h : args? n st = some (as, rs)) : as.length = n ∧ st = as.reverse ++ rs := by
  unfold args? at h
  split at h
  · rename_i hn
    simp only [Option.some.injEq, Prod.mk.injEq] at h
    obtain ⟨rfl, rfl⟩ := h
    exact ⟨by simp [hn], by simp⟩
  · cases h
theorem plain_ne {y : MethodName} (h : plainM y = true) : y.cls ≠ "java/lang/invoke/MethodHandle" ∧ y.cls ≠ "java/lang/invoke/VarHandle" := by
  unfold plainM at h
  simp only [Bool.and_eq_true, bne_iff_ne] at h
  exact ⟨h.1.2, h.2⟩
theorem map_rev (w : Wd) : (as.reverse ++ rs).map (cv w) = (as.map (cv w)).reverse ++ rs.map (cv w) := by simp
/-- the cell of a receiver -/
theorem recv_cell (G : Gd l w) {u : State} (hW : (wS w).WarmedH u.vm) (r : Rel w h u.heap) {x k : Nat} (hk : (hS h x).1 = k) (h9 : k < 9) : ∃ cell, cv w (.ref x) = .ref (adr w x) ∧ u.heap[adr w x]? = some cell ∧ cell.vm.isStatics = false ∧ u.vm.findClass (clN k) = some cell.cls := by
  have hlive := r.liveK hk (by omega) (by omega)
  have hat := r.2.2.1 x hlive.1 hlive.2
  rw [cellE_obj hk (by omega)] at hat
  obtain ⟨q2, g0, cell, g1, g2, g3, -⟩ := hat
  refine ⟨cell, cv_live w hlive.1, g1, ?_, ?_⟩
  · rw [g3]; rfl
  · have hS := ((G.K hW).1 _ _ g0).2.1
    obtain ⟨C0, T, N⟩ := q2
    obtain ⟨-, hCn, -⟩ := kinfo h9 g0
    dsimp only at hS g2 hCn
    rw [g2, ← hCn]; exact hS
theorem site_static (G : Gd l w) (C : Cx w p e R s mid meth c m d hs) {k n : Nat} (hd : decode (mB m) pc = .ok (.invokestatic k, 3)) (ok : okS0 (mC m) k n m') (ha : args? n st = some (as, rs)) :
    ∃ mk, s.methodNamed? (mY m') = some mk ∧ Site p l e R s mid args below meth c H pc ls (st.map (cv w)) (rs.map (cv w)) mk (as.map (cv w)).toArray := by
  obtain ⟨hl, hst, hpn, hok⟩ := ok
  obtain ⟨hlen, rfl⟩ := args_sp ha
  obtain ⟨mk, methk, ck, f1, f2, -, -, -, -, -, f8, -⟩ := mfacts G C.wm hok
  refine ⟨mk, f1, fun T locs cells slots hT X => ?_⟩
  obtain ⟨kx, hkx, hnx⟩ := className_of_methodNamed f1
  have hini := Jvm.Cond.initialized_spec (findClass_of_methodNamed f1) hkx (G.word C.wm (A := args) hok.2.1 rfl)
  have hstat := Jvm.Cond.static_spec f1 f2 (G.word C.wm (A := args) hst rfl)
  have hsz : (as.map (cv w)).length = methk.sig.parameters.length := by rw [List.length_map, hlen]; exact pnum_len hpn _ f8
  rcases hl with hl | ⟨host, hl⟩
  · exact X.invokestatic C.x C.own (G.word C.wm (A := args) hl rfl) f1 f2 hstat hkx hini (plain_ne hok.2.2.1) (g := F0 mid pc ls ((as.reverse ++ rs).map (cv w))) rfl hsz (map_rev w) (by rw [C.b]; exact hd)
  · have hnw : va_Nw (.methodLinkNest (clN (mC m)) k (mY m') host) (wS w) := va_Nw.of rfl (G.1.1 _ hl)
    exact X.invokestaticNest C.x C.own ((hnw.warmM C.wm).use rfl) f1 f2 hstat hkx hini (plain_ne hok.2.2.1) (g := F0 mid pc ls ((as.reverse ++ rs).map (cv w))) rfl hsz (map_rev w) (by rw [C.b]; exact hd)
theorem rcv_sp {ts : List (Nat × Mr)} (h0 : rcv h ts as = some m') : ∃ a t rc, as = .ref a :: t ∧ (rc, m') ∈ ts ∧ (hS h a).1 = rc := by
  unfold rcv at h0
  split at h0
  · rename_i a t
    refine ⟨a, t, _, rfl, ?_, rfl⟩
    induction ts with
    | nil => cases h0
    | cons q ts ih =>
      rw [List.lookup_cons] at h0
      by_cases e : ((hS h a).1 == q.1) = true
      · rw [e] at h0
        simp only [Option.some.injEq] at h0
        have : (hS h a).1 = q.1 := by simpa using e
        rw [this, ← h0]
        exact List.mem_cons_self ..
      · simp only [Bool.not_eq_true] at e
        rw [e] at h0
        exact List.mem_cons_of_mem _ (ih h0)
  · cases h0
/-- an <init>'s receivers -/
theorem init_lt {c k n : Nat} {ts : List (Nat × Mr)} (h : calOf c k = some (1, n, ts)) : ∀ t ∈ ts, t.1 < 9 := by
  have key : ∀ c, (calL c).all (fun e => e.2.1 != 1 || e.2.2.2.all (fun t => decide (t.1 < 9))) = true := by
    intro c
    unfold calL
    split <;> rfl
  have := List.all_eq_true.mp (key c) _ (lookup_mem h)
  simp only [bne_self_eq_false, Bool.false_or] at this
  exact fun t ht => of_decide_eq_true (List.all_eq_true.mp this t ht)
theorem site_init (G : Gd l w) (C : Cx w p e R s mid meth c m d hs) (r : Rel w h H) {k n : Nat} (hd : decode (mB m) pc = .ok (.invokespecial k, 3)) (ok : okS1 (mC m) k n m') (ha : args? n st = some (as, rs)) {ts : List (Nat × Mr)} (h0 : rcv h ts as = some m') (hts : ∀ t ∈ ts, t.1 < 9) :
    ∃ mk, s.methodNamed? (mY m') = some mk ∧ Site p l e R s mid args below meth c H pc ls (st.map (cv w)) (rs.map (cv w)) mk (as.map (cv w)).toArray := by
  obtain ⟨hl, hin, ⟨j, hj, hpn⟩, ⟨hnm, hret⟩, hok⟩ := ok
  obtain ⟨hlen, rfl⟩ := args_sp ha
  obtain ⟨a, t, rc, rfl, hmem, hrc⟩ := rcv_sp h0
  have hlive : 2 ≤ a := (r.liveK hrc (by have := hts _ hmem; dsimp only at this; omega) (by have := hts _ hmem; dsimp only at this; omega)).1
  obtain ⟨mk, methk, ck, f1, f2, -⟩ := mfacts G C.wm hok
  have hcode : Jvm.Cond.code (mY m') (mB m') (mL m') none ∈ lw_tbl := by
    rcases hok.1 with ⟨-, h2⟩ | ⟨⟨-, h2⟩, -⟩
    · rw [← hret]; exact h2
    · have := hok.2.2.2.2.1
      rw [h2, hnm] at this
      cases this
  have hca := cv_live w hlive
  refine ⟨mk, f1, fun T locs cells slots hT X => ?_⟩
  have hpl : e.platform.magicAccessors = ({} : Platform).magicAccessors := by rw [X.admits.platform]
  have hsz : ∀ sig, parseMethodDescriptor (mY m').desc = some sig → (t.map (cv w)).length = sig.parameters.length := fun sig hs => by
    rw [List.length_map]; have := pnum_len hpn sig hs; simp at hlen; omega
  have hstk : (F0 mid pc ls (((.ref a :: t).reverse ++ rs).map (cv w))).stack = (t.map (cv w)).reverse ++ .ref (bas w + (a - 2)) :: rs.map (cv w) := by
    show ((.ref a :: t).reverse ++ rs).map (cv w) = _
    rw [← hca]; simp
  rw [show ((.ref a :: t : List Value).map (cv w)).toArray = (Value.ref (bas w + (a - 2)) :: t.map (cv w)).toArray by rw [List.map_cons, hca]]
  rcases hl with hl | ⟨host, hl⟩
  · obtain ⟨tm, -, -, -, vm', g1, -, -, -, -, -, -, -, gW, hstep⟩ := Steps.initColdArgs (tb := p.tables) (below := below) X.here C.x X.warmed hpl C.own hnm (plain_ne hok.2.2.1) (G.word C.wm (A := args) hl rfl) (G.word C.wm (A := args) hin rfl) (G.word C.wm (A := args) hcode rfl) (f := F0 mid pc ls (((.ref a :: t).reverse ++ rs).map (cv w))) rfl hsz hstk (by rw [C.b]; exact hd)
    cases f1.symm.trans g1
    exact ⟨vm', X.noted gW, hstep⟩
  · have hnw : va_Nw (.methodLinkNest (clN (mC m)) k (mY m') host) (wS w) := va_Nw.of rfl (G.1.1 _ hl)
    obtain ⟨tm, -, -, -, vm', g1, -, -, -, -, -, -, -, gW, hstep⟩ := Steps.initColdArgsNest (tb := p.tables) (below := below) X.here C.x X.warmed hpl C.own hnm (plain_ne hok.2.2.1) ((hnw.warmM C.wm).use (A := args) rfl) (G.word C.wm (A := args) hin rfl) (G.word C.wm (A := args) hcode rfl) (f := F0 mid pc ls (((.ref a :: t).reverse ++ rs).map (cv w))) rfl hsz hstk (by rw [C.b]; exact hd)
    cases f1.symm.trans g1
    exact ⟨vm', X.noted gW, hstep⟩
theorem site_virt (G : Gd l w) (C : Cx w p e R s mid meth c m d hs) (r : Rel w h H) {k n rc : Nat} (hd : decode (mB m) pc = .ok (.invokevirtual k, 3)) (ok : okS2 (mC m) k n m' rc) (ha : args? n st = some (as, rs)) {a : Nat} {t : List Value} (hat : as = .ref a :: t) (hrc : (hS h a).1 = rc) :
    ∃ mk, s.methodNamed? (mY m') = some mk ∧ Site p l e R s mid args below meth c H pc ls (st.map (cv w)) (rs.map (cv w)) mk (as.map (cv w)).toArray := by
  obtain ⟨hl, hin, hsel, ⟨j, hj, hpn⟩, ⟨h9, hcls⟩, hok⟩ := ok
  obtain ⟨hlen, rfl⟩ := args_sp ha
  subst hat
  obtain ⟨mk, methk, ck, f1, f2, -, -, -, -, -, f8, -⟩ := mfacts G C.wm hok
  refine ⟨mk, f1, fun T locs cells slots hT X => ?_⟩
  obtain ⟨mk', methM, hnamed, hmethM, hstM, habM⟩ := Jvm.Cond.instanceMethod_spec (G.word C.wm (A := args) hin rfl)
  cases f1.symm.trans hnamed
  cases f2.symm.trans hmethM
  obtain ⟨cell, hca, g1, g2, g3⟩ := recv_cell (u := T) G (State.WarmedH.trans C.wm X.warmed) (by rw [hT]; exact r) hrc h9
  rw [X.warmed.alike.findClass] at g3
  obtain ⟨c2, r2, m2, q1, q2, q3, q4, kP, hkP, hkPi⟩ := Jvm.Cond.selects_spec (G.word C.wm (A := args) hsel rfl)
  cases g3.symm.trans q1
  cases (State.methodFound?_of_named f1 (plain_ne hok.2.2.1)).symm.trans q2
  cases f1.symm.trans q3
  have hselP : selectMethod e.platform s.vm cell.cls mk = .method mk := by rw [Launch.admits_selectMethod X.admits]; exact q4
  have hsz : (t.map (cv w)).length = methk.sig.parameters.length := by rw [List.length_map, ← pnum_len hpn _ f8]; simp at hlen; omega
  have hstk : (F0 mid pc ls (((.ref a :: t).reverse ++ rs).map (cv w))).stack = (t.map (cv w)).reverse ++ .ref (adr w a) :: rs.map (cv w) := by
    show ((.ref a :: t).reverse ++ rs).map (cv w) = _
    rw [← hca]; simp
  rw [show ((.ref a :: t : List Value).map (cv w)).toArray = (Value.ref (adr w a) :: t.map (cv w)).toArray by rw [List.map_cons, hca]]
  exact X.invokevirtual C.x C.own (G.word C.wm (A := args) hl rfl) f1 f2 hstM hkP hkPi (plain_ne hok.2.2.1) (a := adr w a) (cell := cell) g1 (fun z h => by rw [h] at g2; cases g2) hselP f2 habM hkP hkPi (g := F0 mid pc ls (((.ref a :: t).reverse ++ rs).map (cv w))) rfl (argsL := t.map (cv w)) (rest := rs.map (cv w)) hsz hstk (by rw [C.b]; exact hd)
theorem site_up (G : Gd l w) (C : Cx w p e R s mid meth c m d hs) (r : Rel w h H) {k n rc : Nat} (hd : decode (mB m) pc = .ok (.invokevirtual k, 3)) (ok : okS5 (mC m) k n m' rc) (ha : args? n st = some (as, rs)) {a : Nat} {t : List Value} (hat : as = .ref a :: t) (hrc : (hS h a).1 = rc) :
    ∃ mk, s.methodNamed? (mY m') = some mk ∧ Site p l e R s mid args below meth c H pc ls (st.map (cv w)) (rs.map (cv w)) mk (as.map (cv w)).toArray := by
  obtain ⟨x, o, hl, hsame, hdecl, hin, hsel, ⟨j, hj, hpn⟩, ⟨h9, ho⟩, hok⟩ := ok
  obtain ⟨hlen, rfl⟩ := args_sp ha
  subst hat
  obtain ⟨mk, methk, ck, f1, f2, -, -, -, -, -, f8, -⟩ := mfacts G C.wm hok
  refine ⟨mk, f1, fun T locs cells slots hT X => ?_⟩
  obtain ⟨mk', methM, hnamed, hmethM, hstM, habM⟩ := Jvm.Cond.instanceMethod_spec (G.word C.wm (A := args) hin rfl)
  cases f1.symm.trans hnamed
  cases f2.symm.trans hmethM
  obtain ⟨kP, hkP, hnP⟩ := className_of_methodNamed f1
  obtain ⟨cell, hca, g1, g2, g3⟩ := recv_cell (u := T) G (State.WarmedH.trans C.wm X.warmed) (by rw [hT]; exact r) hrc h9
  rw [X.warmed.alike.findClass] at g3
  have hsameW := G.word C.wm (A := args) hsame rfl
  have hd0 : va_Decl s ⟨o, x.name, x.desc⟩ := by
    rcases hdecl with h1 | h1
    · exact Jvm.Cond.declares_spec (G.word C.wm (A := args) h1 rfl)
    · rw [← h1]; exact ⟨mk, methk, f1, f2, hstM, f8⟩
  obtain ⟨r0, rr, hn, hrm, hstR, hsigR⟩ := hd0
  obtain ⟨cn, ck', r1, hcn, hck, hni, hf, hn1⟩ := Jvm.Cond.sameMethod_found hsameW
  cases hn.symm.trans hn1
  have ho' : o ≠ "java/lang/invoke/MethodHandle" ∧ o ≠ "java/lang/invoke/VarHandle" := by simpa using ho
  have hsz : (t.map (cv w)).length = rr.sig.parameters.length := by rw [List.length_map, ← pnum_len hpn _ hsigR]; simp at hlen; omega
  have hstk : (F0 mid pc ls (((.ref a :: t).reverse ++ rs).map (cv w))).stack = (t.map (cv w)).reverse ++ .ref (adr w a) :: rs.map (cv w) := by
    show ((.ref a :: t).reverse ++ rs).map (cv w) = _
    rw [← hca]; simp
  rw [show ((.ref a :: t : List Value).map (cv w)).toArray = (Value.ref (adr w a) :: t.map (cv w)).toArray by rw [List.map_cons, hca]]
  have key : ∀ (hselP : selectMethod e.platform s.vm cell.cls r0 = .method mk) (kQ : Class), s.vm.classes[mk.cls]? = some kQ → kQ.isInterface = false → ∃ vm', Stand p l e R s mid args below meth c (T.setVm vm') locs cells slots ∧
      ∀ target, (∀ acts, Steps p.tables e below (doInvoke e ((T.setVm vm').setTop (F0 mid pc ls (rs.map (cv w)))) acts mk (Value.ref (adr w a) :: t.map (cv w)).toArray).1 target) → Steps p.tables e below (T.setTop (F0 mid pc ls (((.ref a :: t).reverse ++ rs).map (cv w)))) target := fun hselP kQ hkQ hkQi =>
    X.invokevirtualUp C.x C.own (G.word C.wm (A := args) hl rfl) hsameW ho' hn hrm hstR (a := adr w a) (cell := cell) g1 (fun z h => by rw [h] at g2; cases g2) hselP f2 habM hkQ hkQi (g := F0 mid pc ls (((.ref a :: t).reverse ++ rs).map (cv w))) rfl (argsL := t.map (cv w)) (rest := rs.map (cv w)) hsz hstk (by rw [C.b]; exact hd)
  rcases hsel with hsel | ⟨hxy, hoy, hpr⟩
  · obtain ⟨c2, r2, m2, q1, q2, q3, q4, kQ, hkQ, hkQi⟩ := Jvm.Cond.selects_spec (G.word C.wm (A := args) hsel rfl)
    cases g3.symm.trans q1
    cases hf.symm.trans q2
    cases f1.symm.trans q3
    exact key (by rw [Launch.admits_selectMethod X.admits]; exact q4) kQ hkQ hkQi
  · have e0 : (⟨o, x.name, x.desc⟩ : MethodName) = mY m' := by rw [hxy, hoy]
    rw [e0] at hn
    cases hn.symm.trans f1
    have hpriv := Jvm.Cond.privateMethod_at (G.word C.wm (A := args) hpr rfl) _ _ f1 f2
    have hcc : cn = mk.cls := by
      have := findClass_of_methodNamed f1
      rw [← hoy] at this
      rw [hxy, ← hoy] at hcn
      exact Option.some.inj (hcn.symm.trans this)
    subst hcc
    cases hkP.symm.trans hck
    exact key (selectMethod_private f2 hpriv) _ hkP hni
end SITE
