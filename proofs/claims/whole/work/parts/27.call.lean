/-- the handlers of a method: none, or the law class's own over the five exceptions -/
def hOK (m : Mr) : Prop := mH m = [] ∨ (mC m = 16 ∧ ∀ e ∈ mH m, 9 ≤ e.2.2.2 ∧ e.2.2.2 < 14)
theorem mOK.h {m : Mr} (h : mOK m) : hOK m := by
  rcases h.1 with ⟨h1, -⟩ | ⟨⟨h1, -⟩, h2, -⟩
  · exact Or.inl h1
  · exact Or.inr ⟨h1, h2⟩
/-- my interpreter's word on a point of a method is the machine's -/
def Snd (l : Launch) (w : Wd) (d : Nat) (m : Mr) (pc : Nat) (lc : Lc) (st : List Value) (h : Hp) (r : Rs) (h' : Hp) : Prop :=
  ∀ (p : Program) (e : Env) (R : Room) (s : State) (mid : MethodId) (args : Array Value) (below : List Frame) (meth : Method) (c : Code) (hs : Hp) (H : Heap) (locs : List Loc) (cells slots : Nat) (ls : Array Slot),
    hOK m → Cx w p e R s mid meth c m d hs → Rel w h H → (∀ q ∈ locs, bas w ≤ q.base) → LR w (mL m) lc ls → W p l e R s mid args below meth c H locs cells slots (Fin w below s r h' (capN - hN hs) (capU - hU hs)) (F0 mid pc ls (st.map (cv w)))
section CALL
variable {p : Program} {l : Launch} {e : Env} {R : Room} {s : State} {mid : MethodId} {args : Array Value} {below : List Frame} {meth : Method} {c : Code} {H : Heap} {locs : List Loc} {cells slots : Nat} {Q : State → Prop}
variable {w : Wd} {m m' : Mr} {d pc : Nat} {hs h h' : Hp} {lc : Lc} {st as rs : List Value} {ls : Array Slot} {res : Rs}
theorem mfacts (G : Gd l w) {U : State} (hW : (wS w).WarmedH U.vm) (hok : mOK m') : ∃ (mk : MethodId) (methk : Method) (ck : Code), U.methodNamed? (mY m') = some mk ∧ U.vm.method? mk = some methk ∧ methk.code = some ck ∧ ck.code = mB m' ∧ ck.maxLocals = mL m' ∧ methk.sig.returnType = mR m' ∧ methk.locks = false ∧
    parseMethodDescriptor (mY m').desc = some methk.sig ∧ ck.exceptionTable.toList.map (fun h => (h.startPc, h.endPc, h.handlerPc, h.catchType)) = hxs m' := by
  obtain ⟨hc, -⟩ := hok
  rcases hc with ⟨h1, h2⟩ | ⟨-, -, h2⟩
  · have hw := G.word hW (A := #[]) h2 rfl
    obtain ⟨mk, hn⟩ := Jvm.Cond.code_named hw
    obtain ⟨methk, ck, g1, g2, g3, g4, g5, g6, g7, g8⟩ := Jvm.Cond.code_spec hn hw
    refine ⟨mk, methk, ck, hn, g1, g2, g3, g4, g5, g6, g8, ?_⟩
    unfold hxs
    rw [h1]
    have h0 : ck.exceptionTable.size = 0 := by simpa [Array.isEmpty] using g7
    rw [List.eq_nil_of_length_eq_zero (by simpa using h0 : ck.exceptionTable.toList.length = 0)]
    rfl
  · have hw := G.word hW (A := #[]) h2 rfl
    obtain ⟨mk, methk, ck, hn, g1, g2, g3, g4, g5, g6, g7, g8⟩ := Jvm.Cond.codeWith_spec hw
    exact ⟨mk, methk, ck, hn, g1, g2, g3, g4, g6, g7, g8, g5⟩
/-- the locals at a method's entry -/
theorem lc0_get (w : Wd) : ∀ (as : List Value) (i : Nat) (v : Value), (as.flatMap (fun v => if v.category = 2 then [some v, none] else [some v]))[i]? = some (some v) → (lg_sl (as.map (cv w)))[i]? = some (.val (cv w v))
  | [], i, v, h => by simp at h
  | a :: t, i, v, h => by
    unfold lg_sl at *
    simp only [List.flatMap_cons, List.map_cons, cv_cat] at *
    by_cases q : a.category = 2
    · simp only [q, if_true] at h ⊢
      match i, h with
      | 0, h => simp at h; subst h; rfl
      | 1, h => simp at h
      | i + 2, h => exact lc0_get w t i v (by simpa using h)
    · simp only [q, if_false] at h ⊢
      match i, h with
      | 0, h => simp at h; subst h; rfl
      | i + 1, h => exact lc0_get w t i v (by simpa using h)
theorem lc0_len : ∀ (as : List Value), (as.flatMap (fun v => if v.category = 2 then [some v, none] else [some v])).length = (as.map Value.category).sum
  | [] => rfl
  | a :: t => by
    simp only [List.flatMap_cons, List.length_append, List.map_cons, List.sum_cons, lc0_len t]
    rcases lv_cat a with q | q <;> simp [q]
theorem sl_len (w : Wd) (as : List Value) : (lg_sl (as.map (cv w))).length = (as.map Value.category).sum := by
  unfold lg_sl
  induction as with
  | nil => rfl
  | cons a t ih =>
    simp only [List.map_cons, List.flatMap_cons, List.length_append, List.sum_cons, cv_cat]
    rw [ih]
    rcases lv_cat a with q | q <;> simp [q]
theorem entry_LR (w : Wd) {m' : Mr} {as : List Value} (hf : (as.map Value.category).sum ≤ mL m') : LR w (mL m') (lc0 m' as) ((lg_sl (as.map (cv w)) ++ List.replicate (mL m' - (lg_sl (as.map (cv w))).length) Slot.unset).toArray) := by
  have h0 := lv_entry (as.map (cv w)) (n := mL m') (by rw [sl_len]; exact hf)
  refine ⟨?_, h0.1, h0.2.1, fun q hq => ?_⟩
  · unfold lc0
    simp only [List.length_append, List.length_replicate, lc0_len]
    omega
  · obtain ⟨i, u⟩ := q
    obtain ⟨x, hx, rfl⟩ := mem_asc.mp hq
    unfold lc0 at hx
    dsimp only at hx ⊢
    rw [List.getElem?_toArray]
    by_cases hi : i < (as.flatMap (fun v => if v.category = 2 then [some v, none] else [some v])).length
    · rw [List.getElem?_append_left hi] at hx
      rw [List.getElem?_append_left (by rw [sl_len, ← lc0_len]; exact hi)]
      exact lc0_get w as i x hx
    · rw [List.getElem?_append_right (by omega)] at hx
      have := List.mem_of_getElem? hx
      rw [List.mem_replicate] at this
      cases this.2
/-- into the callee, through it, and to its end -/
theorem call_gen (G : Gd l w) (C : Cx w p e R s mid meth c m (d + 1) hs) {T : State} (X : Stand p l e R s mid args below meth c T locs cells slots) (r : Rel w h T.heap) (hok : mOK m') {mk : MethodId} (hn : s.methodNamed? (mY m') = some mk) (hf : (as.map Value.category).sum ≤ mL m') (hr : rs.length ≤ 16) (hls : ls.size = c.maxLocals) {ig : Instr} (hdg : decode (mB m) pc = .ok (ig, 3)) (IH : Snd l w d m' 0 (lc0 m' as) [] h res h') :
    ∃ t, Steps p.tables e below (doInvoke e (T.setTop (F0 mid pc ls (rs.map (cv w)))) [] mk (as.map (cv w)).toArray).1 t ∧ Fin w (.java (F0 mid pc ls (rs.map (cv w))) :: below) (T.calling (F0 mid pc ls (rs.map (cv w))) mk (as.map (cv w)).toArray) res h' (capN - hN h) (capU - hU h) t := by
  obtain ⟨X', b1, b2⟩ := tight X C.rel r
  obtain ⟨mk', methk, ck, f1, f2, f3, f4, f5, f6, f7, f8, f9⟩ := mfacts G C.wm hok
  cases hn.symm.trans f1
  have hOKm := hok.h
  obtain ⟨hw0, hini, hpl, hcl, hI, hml⟩ := hok
  have hpl : plainName (mY m').cls = true := by
    unfold plainM at hpl
    simp only [Bool.and_eq_true] at hpl
    exact hpl.1.1
  have hnT : T.methodNamed? (mY m') = some mk := X.named f1
  have hmT : T.vm.method? mk = some methk := by rw [X.warmed.alike.method?]; exact f2
  have hroom := C.2.2.2
  have hr1 := r.1
  have hcat := cat_cv (w := w) rs
  obtain ⟨Y, hin⟩ := X'.into (g := F0 mid pc ls (rs.map (cv w))) rfl hls (by rw [C.b]; exact hdg) (as.map (cv w)).toArray (R' := { frames := d + 8, cells := capN - hN h, slots := capU - hU h, locals := (d + 1) * 80 + 300 }) hmT f3 f7 (State.plainMethod.of_named (plainFor_of_name hpl) hnT hmT)
    (by show d + 8 + 1 ≤ _; omega) (by rw [f5]; show 2 * 0 + _ + _ + ((d + 1) * 80 + 300) ≤ _; dsimp only; omega) (by show hN h - hN hs + (capN - hN h) ≤ _; omega) (by show hU h - hU hs + (capU - hU h) ≤ _; omega)
  have hC' : Cx w p e { frames := d + 8, cells := capN - hN h, slots := capU - hU h, locals := (d + 1) * 80 + 300 } (T.calling (F0 mid pc ls (rs.map (cv w))) mk (as.map (cv w)).toArray) mk methk ck m' d h := by
    refine ⟨⟨C.x, f4, f6, f5⟩, ⟨?_, fun hz => ?_, f7, f9⟩, ⟨State.WarmedH.trans C.wm X.warmed, r⟩, ⟨Nat.le_refl _, Nat.le_refl _, Nat.le_refl _, Nat.le_refl _⟩⟩
    · show T.vm.findClass _ = _
      rw [hcl]; exact findClass_of_methodNamed hnT
    · rw [(name_of_methodNamed f1 f2).1]
      rw [hI] at hz
      exact of_decide_eq_true hz
  have key := IH p e _ _ mk (as.map (cv w)).toArray (.java (F0 mid pc ls (rs.map (cv w))) :: below) methk ck h T.heap [] 0 0 _ hOKm hC' r (fun q hq => by cases hq) (entry_LR w hf)
  obtain ⟨t, hst, hfin⟩ := key ((T.setTop (F0 mid pc ls (rs.map (cv w)))).pushFrame (.java (entryFrame mk (as.map (cv w)).toArray ck.maxLocals))) rfl Y
  refine ⟨t, ?_, hfin⟩
  rw [hin []]
  have e1 : entryFrame mk (as.map (cv w)).toArray ck.maxLocals = F0 mk 0 ((lg_sl (as.map (cv w)) ++ List.replicate (mL m' - (lg_sl (as.map (cv w))).length) Slot.unset).toArray) [] := by rw [f5]; exact lg_entry_eq mk (as.map (cv w)) (mL m')
  have hst' := Steps.weaken (mid := [.java (F0 mid pc ls (rs.map (cv w)))]) (below := below) hst
  rw [e1] at hst' ⊢
  exact hst'
/-- how the walk comes from a call's instruction to the invocation -/
def Site (p : Program) (l : Launch) (e : Env) (R : Room) (s : State) (mid : MethodId) (args : Array Value) (below : List Frame) (meth : Method) (c : Code) (H : Heap) (pc : Nat) (ls : Array Slot) (st rs : List Value) (mk : MethodId) (A : Array Value) : Prop :=
  ∀ (T : State) (locs : List Loc) (cells slots : Nat), T.heap = H → Stand p l e R s mid args below meth c T locs cells slots → ∃ vm', Stand p l e R s mid args below meth c (T.setVm vm') locs cells slots ∧
    ∀ target, (∀ acts, Steps p.tables e below (doInvoke e ((T.setVm vm').setTop (F0 mid pc ls rs)) acts mk A).1 target) → Steps p.tables e below (T.setTop (F0 mid pc ls st)) target
/-- a call that returns -/
theorem hh_ret (G : Gd l w) (C : Cx w p e R s mid meth c m (d + 1) hs) (r : Rel w h H) (hlo : ∀ q ∈ locs, bas w ≤ q.base) (hLR : LR w (mL m) lc ls) (hok : mOK m') {mk : MethodId} (hn : s.methodNamed? (mY m') = some mk) (hf : (as.map Value.category).sum ≤ mL m') (hr : rs.length ≤ 16) {ig : Instr} (hdg : decode (mB m) pc = .ok (ig, 3)) {v : Option Value} (IH : Snd l w d m' 0 (lc0 m' as) [] h (.inl v) h')
    (hS : Site p l e R s mid args below meth c H pc ls (st.map (cv w)) (rs.map (cv w)) mk (as.map (cv w)).toArray) (K : Kh p l e R s mid args below meth c Q w (mL m) (pc + 3, lc, v.toList ++ rs) h') : W p l e R s mid args below meth c H locs cells slots Q (F0 mid pc ls (st.map (cv w))) := by
  intro T hT X
  obtain ⟨vm', X1, hstep⟩ := hS T locs cells slots hT X
  have r1 : Rel w h (T.setVm vm').heap := by show Rel w h T.heap; rw [hT]; exact r
  obtain ⟨t, st1, hrun, hend, ⟨hrel, -⟩, hW, L, hsame, hL⟩ := call_gen G C X1 r1 hok hn hf hr (by rw [C.1.2.2.2]; exact hLR.2.1) hdg IH
  obtain ⟨T', X2, hW2, hs2, ht⟩ := X1.outOf (g := F0 mid pc ls (rs.map (cv w))) rfl (ig := ig) (len := 3) (by rw [C.b]; exact hdg) hend hW hsame
  have hr2 : Rel w h' T'.heap := by rw [ht] at hrel; exact hrel
  have hk := K T'.heap (locs ++ L) (cells + (capN - hN h)) (slots + (capU - hU h)) ls hr2 (fun q hq => by
      rcases List.mem_append.mp hq with z | z
      · exact hlo q z
      · exact hL q z) hLR
  obtain ⟨t2, a2, b2⟩ := hk T' rfl X2
  refine ⟨t2, hstep _ fun acts => ?_, b2⟩
  rw [doInvoke_state]
  refine st1.trans ?_
  rw [ht]
  have e1 : (v.map (cv w)).toList ++ rs.map (cv w) = (v.toList ++ rs).map (cv w) := by cases v <;> rfl
  show Steps p.tables e below (T'.setTop (F0 mid (pc + 3) ls ((v.map (cv w)).toList ++ rs.map (cv w)))) t2
  rw [e1]
  exact a2
end CALL
