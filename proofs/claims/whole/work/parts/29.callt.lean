section CALLT
variable {p : Program} {l : Launch} {e : Env} {R : Room} {s : State} {mid : MethodId} {args : Array Value} {below : List Frame} {meth : Method} {c : Code} {H : Heap} {locs : List Loc} {cells slots : Nat} {Q : State → Prop}
variable {w : Wd} {m m' : Mr} {d pc : Nat} {hs h h' : Hp} {lc : Lc} {st as rs : List Value} {ls : Array Slot} {res : Rs}
/-- the cell of an exception -/
theorem exc_cell (G : Gd l w) {u : State} (hW : (wS w).WarmedH u.vm) (r : Rel w h u.heap) {x : Nat} (hx : 2 ≤ x ∧ x < hN h ∧ 9 ≤ (hS h x).1 ∧ (hS h x).1 < 14) : ∃ cell, u.heap[adr w x]? = some cell ∧ (∀ k, cell.vm ≠ .statics k) ∧ u.vm.findClass (clN (hS h x).1) = some cell.cls := by
  have hat := r.2.2.1 x hx.1 hx.2.1
  obtain ⟨q, hq, hq'⟩ := clN_ex hx.2.2
  rw [cellE_obj rfl (by omega)] at hat
  obtain ⟨q2, g0, cell, g1, g2, g3, -⟩ := hat
  cases hq.symm.trans g0
  refine ⟨cell, g1, fun k hk => ?_, ?_⟩
  · have := r.nost (a := adr w x) (by show bas w ≤ bas w + _; omega) g1
    rw [hk] at this; cases this
  · have hS := ((G.K hW).1 _ _ hq).2.1
    rw [hq'] at hS
    dsimp only at hS g2
    rw [g2]; exact hS
/-- a call that throws, where the method has no handlers -/
theorem hh_out (G : Gd l w) (C : Cx w p e R s mid meth c m (d + 1) hs) (r : Rel w h H) (hlo : ∀ q ∈ locs, bas w ≤ q.base) (hLR : LR w (mL m) lc ls) (hok : mOK m') {mk : MethodId} (hn : s.methodNamed? (mY m') = some mk) (hf : (as.map Value.category).sum ≤ mL m') (hr : rs.length ≤ 16) {ig : Instr} (hdg : decode (mB m) pc = .ok (ig, 3)) {x : Nat} (IH : Snd l w d m' 0 (lc0 m' as) [] h (.inr x) h') (hno : mH m = [])
    (hS : Site p l e R s mid args below meth c H pc ls (st.map (cv w)) (rs.map (cv w)) mk (as.map (cv w)).toArray) : W p l e R s mid args below meth c H locs cells slots (Fin w below s (.inr x) h' (capN - hN hs) (capU - hU hs)) (F0 mid pc ls (st.map (cv w))) := by
  intro T hT X
  obtain ⟨vm', X1, hstep⟩ := hS T locs cells slots hT X
  have r1 : Rel w h (T.setVm vm').heap := by show Rel w h T.heap; rw [hT]; exact r
  obtain ⟨t, st1, hrun, hend, ⟨hrel, hx⟩, hW, L, hsame, hL⟩ := call_gen G C X1 r1 hok hn hf hr (by rw [C.1.2.2.2]; exact hLR.2.1) hdg IH
  obtain ⟨T', X2, hW2, hs2, ht⟩ := X1.outOfThrown (g := F0 mid pc ls (rs.map (cv w))) rfl (x := adr w x) hend hW hsame
  have hr2 : Rel w h' T'.heap := by rw [ht] at hrel; exact hrel
  obtain ⟨X3, -, -⟩ := tight X2 C.rel hr2
  have hnl : c.exceptionTable.toList = [] := by
    have := C.2.1.2.2.2
    unfold hxs at this
    rw [hno] at this
    simpa using this
  obtain ⟨k1, k2, k3, k4, k5⟩ := X3.leaveThrown (adr w x) (g := F0 mid pc ls (rs.map (cv w))) rfl rfl rfl (fun y hy => by rw [hnl] at hy; cases hy) C.2.1.2.2.1
  have z1 := hr2.1
  refine ⟨_, hstep _ fun acts => ?_, k2, k3, ⟨hr2, hx⟩, k4, locs ++ L, k5.weaken (fun y hy _ => hy) (by omega) (by omega), fun q hq => ?_⟩
  · rw [doInvoke_state]
    refine st1.trans ?_
    rw [ht]
    exact k1
  · rcases List.mem_append.mp hq with z | z
    · exact hlo q z
    · exact hL q z
/-- a call that throws, and is caught -/
theorem hh_caught (G : Gd l w) (hOK : hOK m) (C : Cx w p e R s mid meth c m (d + 1) hs) (r : Rel w h H) (hlo : ∀ q ∈ locs, bas w ≤ q.base) (hLR : LR w (mL m) lc ls) (hok : mOK m') {mk : MethodId} (hn : s.methodNamed? (mY m') = some mk) (hf : (as.map Value.category).sum ≤ mL m') (hr : rs.length ≤ 16) {ig : Instr} (hdg : decode (mB m) pc = .ok (ig, 3)) {x : Nat} (IH : Snd l w d m' 0 (lc0 m' as) [] h (.inr x) h') {q : Nat} (hq : hnd m pc (hS h' x).1 = some q)
    (hS : Site p l e R s mid args below meth c H pc ls (st.map (cv w)) (rs.map (cv w)) mk (as.map (cv w)).toArray) (K : Kh p l e R s mid args below meth c Q w (mL m) (q, lc, [.ref x]) h') : W p l e R s mid args below meth c H locs cells slots Q (F0 mid pc ls (st.map (cv w))) := by
  intro T hT X
  obtain ⟨vm', X1, hstep⟩ := hS T locs cells slots hT X
  have r1 : Rel w h (T.setVm vm').heap := by show Rel w h T.heap; rw [hT]; exact r
  obtain ⟨t, st1, hrun, hend, ⟨hrel, hx⟩, hW, L, hsame, hL⟩ := call_gen G C X1 r1 hok hn hf hr (by rw [C.1.2.2.2]; exact hLR.2.1) hdg IH
  obtain ⟨T', X2, hW2, hs2, ht⟩ := X1.outOfThrown (g := F0 mid pc ls (rs.map (cv w))) rfl (x := adr w x) hend hW hsame
  have hr2 : Rel w h' T'.heap := by rw [ht] at hrel; exact hrel
  have hx := hx x rfl
  have hWT : (wS w).WarmedH T'.vm := State.WarmedH.trans C.wm X2.warmed
  obtain ⟨cell, c1, c2, c3⟩ := exc_cell G hWT hr2 hx
  rcases hOK with h0 | ⟨h16, hcl⟩
  · unfold hnd at hq; rw [h0] at hq; simp at hq
  have hown : s.vm.findClass (clN 16) = some mid.cls := by rw [← h16]; exact C.own
  obtain ⟨vm2, b1, b2⟩ := find5 (f := F0 mid pc ls (rs.map (cv w))) (a := adr w x) G X2.admits C.wm hx.2.2 hown (H := T'.heap) c2 c1 c.exceptionTable.toList (mH m) ((T'.setTop (F0 mid pc ls (rs.map (cv w)))).pushFrame (.throwing (adr w x))) C.2.1.2.2.2 hcl (by rw [Stand.throwing_vm]; exact X2.warmed) (by rw [Stand.throwing_heap]) (by rw [Stand.throwing_vm]; exact c3) q hq
  have X3 := X2.noted b1
  have hk := K T'.heap (locs ++ L) (cells + (capN - hN h)) (slots + (capU - hU h)) ls hr2 (fun q hq => by
      rcases List.mem_append.mp hq with z | z
      · exact hlo q z
      · exact hL q z) hLR
  obtain ⟨t2, a2, a3⟩ := hk (T'.setVm vm2) rfl X3
  refine ⟨t2, hstep _ fun acts => ?_, a3⟩
  rw [doInvoke_state]
  refine st1.trans ?_
  rw [ht]
  refine caughtW (g := F0 mid pc ls (rs.map (cv w))) (c := c) X2.here (vm' := vm2) (pc := q) (fun Q E d acts => ?_) ?_
  · exact (W.findHandler_eq (f := F0 mid pc ls (rs.map (cv w))) (meth := meth) (code := c) (by rw [Stand.throwing_vm]; exact X2.method') X2.code).trans (b2 Q E d acts)
  · have e1 : ([.ref x] : List Value).map (cv w) = [.ref (adr w x)] := by
      rw [List.map_singleton, cv_live w hx.1]; rfl
    rw [e1] at a2
    exact a2
end CALLT
