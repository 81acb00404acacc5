section FIN
variable {p : Program} {l : Launch} {e : Env} {R : Room} {s : State} {mid : MethodId} {args : Array Value} {below : List Frame} {meth : Method} {c : Code} {H : Heap} {locs : List Loc} {cells slots : Nat} {Q : State → Prop}
variable {w : Wd} {m m' : Mr} {d pc n : Nat} {hs h h' : Hp} {lc : Lc} {st as rs : List Value} {ls : Array Slot} {i : Instr} {rr : Rs}
theorem fin_leave (C : Cx w p e R s mid meth c m d hs) (r : Rel w h H) (hlo : ∀ q ∈ locs, bas w ≤ q.base) (v : Option Value) (hv : meth.sig.returnType = none → v.map (cv w) = none) {g : JFrame}
    (hrow : ∀ (T : State) (fs : List Frame) (cells' slots' : Nat), Stand p l e R s mid args below meth c T locs cells' slots' → (∀ (f : JFrame) (acts : List Action), f.method = mid → f.locked = none → f.entered = [] → (doReturn e (T.setTop f) acts (v.map (cv w))).1 = T.setFrames fs) → Steps p.tables e below (T.setTop g) (T.setFrames fs)) :
    W p l e R s mid args below meth c H locs cells slots (Fin w below s (.inl v) h (capN - hN hs) (capU - hU hs)) g := by
  intro T hT X
  obtain ⟨X', b1, b2⟩ := tight X C.rel (by rw [hT]; exact r)
  obtain ⟨fs, hret, hrun, hended, hW, hframe⟩ := X'.leave hv C.2.1.2.2.1
  have z := r.1
  exact ⟨T.setFrames fs, hrow T fs _ _ X' hret, hrun, hended, ⟨(by show Rel w h T.heap; rw [hT]; exact r), fun x hx => by cases hx⟩, hW, locs, hframe.weaken (fun y hy _ => hy) (by omega) (by omega), hlo⟩
theorem fin_int (C : Cx w p e R s mid meth c m d hs) (r : Rel w h H) (hlo : ∀ q ∈ locs, bas w ≤ q.base) (hd : decode (mB m) pc = .ok (.ireturn, 1)) {x : Int32} (h0 : retA m (.int x) h = some (.inr (.inl (rr, h')))) :
    W p l e R s mid args below meth c H locs cells slots (Fin w below s rr h' (capN - hN hs) (capU - hU hs)) (F0 mid pc ls [.int x]) := by
  have hr := C.1.2.2.1
  unfold retA at h0
  split at h0
  · rename_i hm hv
    cases hv
    simp only [Option.some.injEq, Sum.inr.injEq, Sum.inl.injEq, Prod.mk.injEq] at h0
    obtain ⟨rfl, rfl⟩ := h0
    rw [hm] at hr
    refine fin_leave C r hlo _ (fun z => by rw [hr] at z; cases z) fun T fs ce sl X hret => ?_
    change ∀ (f : JFrame) (acts : List Action), f.method = mid → f.locked = none → f.entered = [] → (doReturn e (T.setTop f) acts (some (.int x))).1 = T.setFrames fs at hret
    have hmeth' : T.vm.method? mid = some meth := X.method'
    jvm_step X.here [X.here.top, C.x, C.b, hd, hmeth', hr, narrow]
    intro acts; rw [hret _ acts rfl rfl rfl]
    exact Steps.refl _
  · rename_i hm hv
    cases hv
    simp only [Option.some.injEq, Sum.inr.injEq, Sum.inl.injEq, Prod.mk.injEq] at h0
    obtain ⟨rfl, rfl⟩ := h0
    rw [hm] at hr
    refine fin_leave C r hlo _ (fun z => by rw [hr] at z; cases z) fun T fs ce sl X hret => ?_
    change ∀ (f : JFrame) (acts : List Action), f.method = mid → f.locked = none → f.entered = [] → (doReturn e (T.setTop f) acts (some (.int (x &&& 1)))).1 = T.setFrames fs at hret
    have hmeth' : T.vm.method? mid = some meth := X.method'
    jvm_step X.here [X.here.top, C.x, C.b, hd, hmeth', hr, narrow]
    intro acts; rw [hret _ acts rfl rfl rfl]
    exact Steps.refl _
  · rename_i hm hv; cases hv
  · rename_i hm hv; cases hv
  · rename_i hm hv; cases hv
  · cases h0
theorem fin_long (C : Cx w p e R s mid meth c m d hs) (r : Rel w h H) (hlo : ∀ q ∈ locs, bas w ≤ q.base) (hd : decode (mB m) pc = .ok (.lreturn, 1)) {x : Int64} (h0 : retA m (.long x) h = some (.inr (.inl (rr, h')))) :
    W p l e R s mid args below meth c H locs cells slots (Fin w below s rr h' (capN - hN hs) (capU - hU hs)) (F0 mid pc ls [.long x]) := by
  have hr := C.1.2.2.1
  unfold retA at h0
  split at h0
  · rename_i hm hv; cases hv
  · rename_i hm hv; cases hv
  · rename_i hm hv
    cases hv
    simp only [Option.some.injEq, Sum.inr.injEq, Sum.inl.injEq, Prod.mk.injEq] at h0
    obtain ⟨rfl, rfl⟩ := h0
    rw [hm] at hr
    refine fin_leave C r hlo _ (fun z => by rw [hr] at z; cases z) fun T fs ce sl X hret => ?_
    change ∀ (f : JFrame) (acts : List Action), f.method = mid → f.locked = none → f.entered = [] → (doReturn e (T.setTop f) acts (some (.long x))).1 = T.setFrames fs at hret
    have hmeth' : T.vm.method? mid = some meth := X.method'
    jvm_step X.here [X.here.top, C.x, C.b, hd, hmeth', hr, narrow]
    intro acts; rw [hret _ acts rfl rfl rfl]
    exact Steps.refl _
  · rename_i hm hv; cases hv
  · rename_i hm hv; cases hv
  · cases h0
theorem fin_double (C : Cx w p e R s mid meth c m d hs) (r : Rel w h H) (hlo : ∀ q ∈ locs, bas w ≤ q.base) (hd : decode (mB m) pc = .ok (.dreturn, 1)) {x : UInt64} (h0 : retA m (.double x) h = some (.inr (.inl (rr, h')))) :
    W p l e R s mid args below meth c H locs cells slots (Fin w below s rr h' (capN - hN hs) (capU - hU hs)) (F0 mid pc ls [.double x]) := by
  have hr := C.1.2.2.1
  unfold retA at h0
  split at h0
  · rename_i hm hv; cases hv
  · rename_i hm hv; cases hv
  · rename_i hm hv; cases hv
  · rename_i hm hv
    cases hv
    simp only [Option.some.injEq, Sum.inr.injEq, Sum.inl.injEq, Prod.mk.injEq] at h0
    obtain ⟨rfl, rfl⟩ := h0
    rw [hm] at hr
    refine fin_leave C r hlo _ (fun z => by rw [hr] at z; cases z) fun T fs ce sl X hret => ?_
    change ∀ (f : JFrame) (acts : List Action), f.method = mid → f.locked = none → f.entered = [] → (doReturn e (T.setTop f) acts (some (.double x))).1 = T.setFrames fs at hret
    have hmeth' : T.vm.method? mid = some meth := X.method'
    jvm_step X.here [X.here.top, C.x, C.b, hd, hmeth', hr, narrow]
    intro acts; rw [hret _ acts rfl rfl rfl]
    exact Steps.refl _
  · rename_i hm hv; cases hv
  · cases h0
theorem fin_ref (C : Cx w p e R s mid meth c m d hs) (r : Rel w h H) (hlo : ∀ q ∈ locs, bas w ≤ q.base) (hd : decode (mB m) pc = .ok (.areturn, 1)) {x : Nat} (h0 : retA m (.ref x) h = some (.inr (.inl (rr, h')))) :
    W p l e R s mid args below meth c H locs cells slots (Fin w below s rr h' (capN - hN hs) (capU - hU hs)) (F0 mid pc ls [cv w (.ref x)]) := by
  have hr := C.1.2.2.1
  unfold retA at h0
  split at h0
  · rename_i hm hv; cases hv
  · rename_i hm hv; cases hv
  · rename_i hm hv; cases hv
  · rename_i hm hv; cases hv
  · rename_i hm hv
    cases hv
    simp only [Option.some.injEq, Sum.inr.injEq, Sum.inl.injEq, Prod.mk.injEq] at h0
    obtain ⟨rfl, rfl⟩ := h0
    rw [hm] at hr
    refine fin_leave C r hlo _ (fun z => by rw [hr] at z; cases z) fun T fs ce sl X hret => ?_
    have hmeth' : T.vm.method? mid = some meth := X.method'
    rw [Option.map_some] at hret
    rcases cv_ref w x with ⟨-, q⟩ | ⟨-, b, q⟩
    · rw [q] at hret ⊢
      jvm_step X.here [X.here.top, C.x, C.b, hd, hmeth', hr, narrow, Value.isRef]
      refine ⟨rfl, ?_⟩
      intro acts; rw [hret _ acts rfl rfl rfl]
      exact Steps.refl _
    · rw [q] at hret ⊢
      jvm_step X.here [X.here.top, C.x, C.b, hd, hmeth', hr, narrow, Value.isRef]
      refine ⟨rfl, ?_⟩
      intro acts; rw [hret _ acts rfl rfl rfl]
      exact Steps.refl _
  · cases h0
theorem fin_void (C : Cx w p e R s mid meth c m d hs) (r : Rel w h H) (hlo : ∀ q ∈ locs, bas w ≤ q.base) (hd : decode (mB m) pc = .ok (.return_, 1)) (hm : mR m = none) :
    W p l e R s mid args below meth c H locs cells slots (Fin w below s (.inl none) h (capN - hN hs) (capU - hU hs)) (F0 mid pc ls []) := by
  have hr := C.1.2.2.1
  rw [hm] at hr
  refine fin_leave C r hlo none (fun z => rfl) fun T fs ce sl X hret => ?_
  change ∀ (f : JFrame) (acts : List Action), f.method = mid → f.locked = none → f.entered = [] → (doReturn e (T.setTop f) acts (none)).1 = T.setFrames fs at hret
  have hmeth' : T.vm.method? mid = some meth := X.method'
  jvm_step X.here [X.here.top, C.x, C.b, hd, hmeth', hr]
  first | (intro acts; rw [hret _ acts rfl rfl rfl]) | rw [hret _ _ rfl rfl rfl]
  exact Steps.refl _
end FIN
