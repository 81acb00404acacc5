section CATCH
variable {E : CtlPost} {e : Env} {dd : Bool} {acts : List Action} {u : State} {f : JFrame} {a : Addr} {Q : Handler → Pre}
/-- one row of the handlers, its class resolved or not yet -/
theorem go_cold {x : ExceptionTableEntry} {t : List ExceptionTableEntry} {c : ClassId} {cell : Cell} (hx : covers x f.pc = true) (h0 : x.catchType ≠ 0) (hl : u.vm.ClassLinks e.platform f.method.cls x.catchType c) (hcell : u.heap[a]? = some cell) (hobj : ∀ k, cell.vm ≠ .statics k)
    {vm' : Vm} (hv : u.vm.noted f.method.cls x.catchType (.cls c) = vm') (hk : ∃ k, vm'.classes[cell.cls]? = some k) (hc : ∃ k, vm'.classes[c]? = some k) (hsz : vm'.classes.size ≤ u.vm.classes.size) {b : Bool} (hb : vm'.assignable cell.cls c = b) :
    wp (findHandler.go f a (x :: t)) Q E e dd acts u ↔ if b = true then Q (.found x.handlerPc) dd acts (u.setVm vm') else wp (findHandler.go f a t) Q E e dd acts (u.setVm vm') := by
  obtain ⟨h1, h2⟩ := (resolveClass_links e.toSetting hl).op (op := VmOp.resolveClass f.method.cls x.catchType) rfl
  rw [hv] at h2
  simp only [covers] at hx
  cases b <;> simp [findHandler.go, hx, h0, h1, VmOp.lands_eq h2 hsz, hcell, hobj, hk, hc, hb, VmOp.dirties, VmOp.acts]
/-- what the search ends in, the tables warmer behind it -/
def FindsW (e : Env) (u : State) (f : JFrame) (a : Addr) (h : Handler) (u' : State) : Prop := ∀ (Q : Handler → Pre) (E : CtlPost) (d : Bool) (acts : List Action), wp (findHandler f a) Q E e d acts u ↔ Q h d acts u'
theorem catchW {r : List Frame} {u' : State} {pc : Nat} (hfind : FindsW e u f a (.found pc) u') : (stepThrowing e u a (.java f :: r)).Is (u'.setFrames (.java { f with pc := pc, stack := [.ref a] } :: r)) [] := by
  simp only [stepThrowing, searchFrame, vmDo]
  generalize hr : Sem.go _ e false [] u = res
  obtain ⟨as, rfl, ha⟩ := Sem.eq_ok_of hr (a := Handler.found pc) (s' := u') (acts' := []) (by simp [hfind _ _ _ _])
  exact ⟨rfl, ha⟩
theorem caughtW {tb : Tables} {s target : State} {g : JFrame} {c : Code} {below : List Frame} (h : At s g.method c below) {vm' : Vm} {pc : Nat} (hfind : FindsW e ((s.setTop g).pushFrame (.throwing a)) g a (.found pc) (((s.setTop g).pushFrame (.throwing a)).setVm vm'))
    (hrest : Steps tb e below ((s.setVm vm').setTop { g with pc := pc, stack := [.ref a] }) target) : Steps tb e below ((s.setTop g).pushFrame (.throwing a)) target := by
  obtain ⟨hgo, hw⟩ := h.throwing a
  refine Steps.head hgo hw ?_
  rw [stepThread_throwing (frames_entered h.top _), (catchW (u := (s.setTop g).pushFrame (.throwing a)) hfind).1]
  obtain ⟨g₀, hg⟩ := Option.isSome_iff_exists.mp h.top
  obtain ⟨r, hr⟩ := State.topJava?_eq_some.mp hg
  have hr' : (s.setVm vm').frames = .java g₀ :: r := hr
  rw [State.setTop_of_frames _ hr'] at hrest
  rw [State.pushFrame, State.setTop_of_frames _ hr, hr]
  have e1 : ∀ fr : List Frame, (s.setFrames fr).setVm vm' = (s.setVm vm').setFrames fr := fun _ => rfl
  rw [State.setFrames_setFrames, e1, State.setFrames_setFrames]
  exact hrest
end CATCH
section CATCH2
variable {l : Launch} {w : Wd} {e : Env} {s : State} {f : JFrame} {a : Addr}
theorem catI_ne {k : Nat} (h : 9 ≤ k ∧ k < 14) : catI k ≠ 0 ∧ Jvm.Cond.classLink (clN 16) (catI k) (clN k) ∈ lw_tbl := by
  have : k = 9 ∨ k = 10 ∨ k = 11 ∨ k = 12 ∨ k = 13 := by omega
  rcases this with rfl | rfl | rfl | rfl | rfl <;> exact ⟨by decide, by decide +kernel⟩
theorem not_cast {k k' : Nat} (h : 9 ≤ k ∧ k < 14) (h' : 9 ≤ k' ∧ k' < 14) (hne : ¬ k' = k) : (clN k, clN k') ∈ notCast := by
  have e1 : k = 9 ∨ k = 10 ∨ k = 11 ∨ k = 12 ∨ k = 13 := by omega
  have e2 : k' = 9 ∨ k' = 10 ∨ k' = 11 ∨ k' = 12 ∨ k' = 13 := by omega
  rcases e1 with rfl | rfl | rfl | rfl | rfl <;> rcases e2 with rfl | rfl | rfl | rfl | rfl <;> first | exact absurd rfl hne | decide +kernel
/-- the five exceptions' classes: which is which -/
theorem cast5 (G : Gd l w) {u : State} (hW : (wS w).WarmedH u.vm) {k k' : Nat} (h : 9 ≤ k ∧ k < 14) (h' : 9 ≤ k' ∧ k' < 14) {c c' : ClassId} (hc : u.vm.findClass (clN k) = some c) (hc' : u.vm.findClass (clN k') = some c') : u.vm.assignable c c' = decide (k' = k) := by
  by_cases hne : k' = k
  · subst hne
    cases hc.symm.trans hc'
    rw [decide_eq_true rfl]
    show u.vm.assignableAux (255 + 1) c c = true
    rw [Vm.assignableAux]; simp
  · rw [decide_eq_false hne]
    have g := G.2.2.1 _ (not_cast h h' hne)
    rw [hW.alike.findClass] at hc hc'
    rw [hW.alike.assignable]
    simpa [Jvm.Cond.before, Jvm.Cond.holds, Jvm.Cond.value, hc, hc'] using g
theorem find5 (G : Gd l w) (ha : l.admits e) (hWs : (wS w).WarmedH s.vm) {k : Nat} (h9 : 9 ≤ k ∧ k < 14) (hown : s.vm.findClass (clN 16) = some f.method.cls) {H : Heap} {cell : Cell} (hobj : ∀ k, cell.vm ≠ .statics k) (hcell : H[a]? = some cell) :
    ∀ (ts : List ExceptionTableEntry) (es : List (Nat × Nat × Nat × Nat)) (u : State), ts.map (fun h => (h.startPc, h.endPc, h.handlerPc, h.catchType)) = es.map (fun e => (e.1, e.2.1, e.2.2.1, catI e.2.2.2)) → (∀ e ∈ es, 9 ≤ e.2.2.2 ∧ e.2.2.2 < 14) → s.WarmedH u.vm → u.heap = H → u.vm.findClass (clN k) = some cell.cls →
      ∀ q, (es.find? (fun e => decide (e.1 ≤ f.pc) && decide (f.pc < e.2.1) && e.2.2.2 == k)).map (·.2.2.1) = some q → ∃ vm', s.WarmedH vm' ∧ ∀ (Q : Handler → Pre) (E : CtlPost) (d : Bool) (acts : List Action), wp (findHandler.go f a ts) Q E e d acts u ↔ Q (.found q) d acts (u.setVm vm')
  | ts, [], u, _, _, _, _, _, q, hq => by simp at hq
  | [], x :: es, u, hts, _, _, _, _, q, hq => by simp at hts
  | t :: ts, x :: es, u, hts, hes, hW, hH, hk, q, hq => by
    simp only [List.map_cons, List.cons.injEq, Prod.mk.injEq] at hts
    obtain ⟨⟨t1, t2, t3, t4⟩, hts⟩ := hts
    have hx := hes x (List.mem_cons_self ..)
    have hes' : ∀ e ∈ es, 9 ≤ e.2.2.2 ∧ e.2.2.2 < 14 := fun y hy => hes y (List.mem_cons_of_mem _ hy)
    have hcv : covers t f.pc = (decide (x.1 ≤ f.pc) && decide (f.pc < x.2.1)) := by unfold covers; rw [t1, t2]
    by_cases hc : covers t f.pc = true
    · have hwl := G.word hWs (A := #[]) (catI_ne hx).2 rfl
      have hpl : e.platform.magicAccessors = ({} : Platform).magicAccessors := by rw [ha.platform]
      obtain ⟨c, hfc, hcl⟩ := Jvm.Cond.classLink_spec hown hwl e.platform hpl
      rw [← t4] at hcl
      obtain ⟨dk, _, _, kt, hd, _, _, _, _, hkt, _, hopen⟩ := hcl.here
      have hcl₀ := hW.classLinks hcl
      have hW' : s.WarmedH (u.vm.noted f.method.cls t.catchType (.cls c)) := hW.noted hd hopen (State.rightAt_cls hcl)
      have hk' : (u.vm.noted f.method.cls t.catchType (.cls c)).findClass (clN k) = some cell.cls := by rw [hW'.alike.findClass, ← hW.alike.findClass]; exact hk
      have hx' : (u.vm.noted f.method.cls t.catchType (.cls c)).findClass (clN x.2.2.2) = some c := by rw [hW'.alike.findClass]; exact hfc
      have hb := cast5 G (u := u.setVm (u.vm.noted f.method.cls t.catchType (.cls c))) (State.WarmedH.trans hWs hW') h9 hx hk' hx'
      have go := fun (Q : Handler → Pre) (E : CtlPost) (d : Bool) (acts : List Action) => go_cold (E := E) (dd := d) (acts := acts) (Q := Q) (t := ts) (x := t) hc (by rw [t4]; exact (catI_ne hx).1) hcl₀ (by rw [hH]; exact hcell) hobj rfl (Vm.classAt_of_findClass hk') (Vm.classAt_of_findClass hx') (by simp) hb
      by_cases e5 : x.2.2.2 = k
      · rw [List.find?_cons_of_pos (by rw [← hcv, hc, e5]; simp)] at hq
        simp only [Option.map_some, Option.some.injEq] at hq
        refine ⟨_, hW', fun Q E d acts => ?_⟩
        rw [go, decide_eq_true e5, if_pos rfl, t3, hq]
      · rw [List.find?_cons_of_neg (by simp [e5])] at hq
        obtain ⟨vm', a1, a2⟩ := find5 G ha hWs h9 hown hobj hcell ts es (u.setVm (u.vm.noted f.method.cls t.catchType (.cls c))) hts hes' hW' hH hk' q hq
        refine ⟨vm', a1, fun Q E d acts => ?_⟩
        rw [go, decide_eq_false e5, if_neg (by decide)]
        exact a2 Q E d acts
    · have hc : covers t f.pc = false := by simpa using hc
      rw [List.find?_cons_of_neg (by rw [← hcv, hc]; simp)] at hq
      obtain ⟨vm', a1, a2⟩ := find5 G ha hWs h9 hown hobj hcell ts es u hts hes' hW hH hk q hq
      exact ⟨vm', a1, fun Q E d acts => (W.findHandler_go_skip hc).trans (a2 Q E d acts)⟩
end CATCH2
