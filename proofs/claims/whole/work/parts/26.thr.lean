/-- the address of a live cell in the machine -/
def adr (w : Wd) (x : Nat) : Addr := bas w + (x - 2)
def oc (w : Wd) (r : Rs) : Outcome := match r with
  | .inl v => .returned (v.map (cv w))
  | .inr x => .threw (adr w x)
/-- how a method's walk ends: as my interpreter says -/
def Fin (w : Wd) (below : List Frame) (s : State) (r : Rs) (h' : Hp) (mc ms : Nat) (t : State) : Prop :=
  t.status = .running ∧ Ended t below (oc w r) ∧ (Rel w h' t.heap ∧ (∀ x, r = .inr x → 2 ≤ x ∧ x < hN h' ∧ 9 ≤ (hS h' x).1 ∧ (hS h' x).1 < 14)) ∧ s.WarmedH t.vm ∧ ∃ L, s.sameButNew ({ t with vm := s.vm } : State) L mc ms ∧ ∀ q ∈ L, bas w ≤ q.base
section TQ
variable {p : Program} {l : Launch} {e : Env} {R : Room} {s : State} {mid : MethodId} {args : Array Value} {below : List Frame} {meth : Method} {c : Code} {H : Heap} {locs : List Loc} {cells slots : Nat}
variable {w : Wd} {m : Mr} {d pc : Nat} {hs h : Hp} {lc : Lc} {st : List Value} {ls : Array Slot}
/-- the words on statics go along: the old part of the heap is as it was -/
theorem Gd.stat (G : Gd l w) {U : State} (hW : (wS w).WarmedH U.vm) {h : Hp} (r : Rel w h U.heap) {A : Array Value} {n dsc : String} (hl : Jvm.Cond.laysStatic "java/lang/Throwable" n dsc ∈ lw_tbl) :
    (Jvm.Cond.laysStatic "java/lang/Throwable" n dsc).before A U = true ∧ ((Jvm.Cond.isRef (.static "java/lang/Throwable" n dsc)).before #[Value.ref (wb w)] (wS w) = true → (Jvm.Cond.isRef (.static "java/lang/Throwable" n dsc)).before A U = true) := by
  have h0 := G.1.1 _ hl
  obtain ⟨c0, k, i, f, a, cell, g1, g2, g3, g4, g5, g6, g7, g8, g9⟩ := Jvm.Cond.laysStatic_spec h0
  obtain ⟨k', hi', he⟩ := State.fieldFound?_setVm hW.alike g2
  have hi : U.fieldFound? "java/lang/Throwable" n dsc = some (c0, k', i, f) := hi'
  have hf : U.vm.findClass "java/lang/Throwable" = some c0 := by rw [hW.alike.findClass]; exact g1
  have hlt : a < bas w := (Array.getElem?_eq_some_iff.mp g5).1
  have hc : U.heap[a]? = some cell := by rw [r.2.1 a hlt]; exact g5
  have hst : k'.statics = some a := by rw [he]; exact g4
  have hty : k'.staticTypes[f.slot]? = some f.type := by rw [he]; exact g9
  refine ⟨?_, fun hr => ?_⟩
  · simp [Jvm.Cond.before, Jvm.Cond.holds, Jvm.Cond.value, hf, hi, hst, hc, g3, g6, g7, g8, hty]
  · obtain ⟨u, hu⟩ := Jvm.Cond.staticRefV (args := #[Value.ref (wb w)]) (first := wS w) (o := none) (idx := []) g2 g3 g4 g5 g6 hr
    have he : (Term.static "java/lang/Throwable" n dsc).eval A U none [] U = some u.v := by
      simp [Term.eval, State.fieldNamed?, hi, g3, hst, hc, g6, hu]
    have hu2 := u.ok
    simp only [Jvm.Cond.before, Jvm.Cond.holds, Jvm.Cond.value]
    rw [he]
    cases hv : u.v <;> rw [hv] at hu2 <;> first | rfl | (cases hu2; done)
theorem lS1 : Jvm.Cond.laysStatic "java/lang/Throwable" "UNASSIGNED_STACK" "[Ljava/lang/StackTraceElement;" ∈ lw_tbl := by decide +kernel
theorem lS2 : Jvm.Cond.laysStatic "java/lang/Throwable" "SUPPRESSED_SENTINEL" "Ljava/util/List;" ∈ lw_tbl := by decide +kernel
/-- any word of the exceptions' -/
theorem Gd.exw (G : Gd l w) {U : State} (hW : (wS w).WarmedH U.vm) {h : Hp} (r : Rel w h U.heap) {A : Array Value} {a : Jvm.Cond} (ha : a ∈ lw_tbl) (hb : special a = false ∨ a = .laysStatic "java/lang/Throwable" "UNASSIGNED_STACK" "[Ljava/lang/StackTraceElement;" ∨ a = .laysStatic "java/lang/Throwable" "SUPPRESSED_SENTINEL" "Ljava/util/List;") : a.before A U = true := by
  rcases hb with hb | rfl | rfl
  · exact G.word hW ha hb
  · exact (G.stat hW r ha).1
  · exact (G.stat hW r ha).1
theorem exS_sp : exS.all (fun a => !special a || decide (a = .laysStatic "java/lang/Throwable" "UNASSIGNED_STACK" "[Ljava/lang/StackTraceElement;") || decide (a = .laysStatic "java/lang/Throwable" "SUPPRESSED_SENTINEL" "Ljava/util/List;")) = true := by decide +kernel
theorem exA_sp (own : String) (ic x : Nat) : (exA own ic x).all (fun a => !special a) = true := rfl
theorem clN_ex {x : Nat} (h : 9 ≤ x ∧ x < 14) : ∃ q, kls[x]? = some q ∧ q = (clN x, q.2.1, 0) := by
  obtain ⟨h1, h2⟩ := h
  have : x = 9 ∨ x = 10 ∨ x = 11 ∨ x = 12 ∨ x = 13 := by omega
  rcases this with rfl | rfl | rfl | rfl | rfl <;> exact ⟨_, rfl, rfl⟩
/-- cells of my own part aren't classes' statics -/
theorem Rel.nost (r : Rel w h H) {a : Addr} (ha : bas w ≤ a) {cell : Cell} (hc : H[a]? = some cell) : cell.vm.isStatics = false := by
  have hz := r.size
  have hlt := (Array.getElem?_eq_some_iff.mp hc).1
  have h2 := r.1
  have hat := r.2.2.1 (a - bas w + 2) (by omega) (by omega)
  rw [show bas w + (a - bas w + 2 - 2) = a by omega] at hat
  unfold cellE at hat
  have arr : ∀ x : ClassId × vp_A, va_at (wD w) kls (a, .inl x) H → cell.vm.isStatics = false := by
    intro x hx
    have hx : H[a]? = some (vp_cell x.1 x.2) := hx
    rw [hc] at hx
    cases hx
    unfold vp_cell
    obtain ⟨n, f | f | f | f | f⟩ := x.2 <;> rfl
  split at hat
  · exact arr _ hat
  · split at hat
    · exact arr _ hat
    · split at hat
      · exact arr _ hat
      · split at hat
        · exact arr _ hat
        · split at hat
          · exact arr _ hat
          · obtain ⟨q, -, cl, g1, -, g3, -⟩ := hat
            rw [hc] at g1
            cases g1
            rw [g3]; rfl
theorem hh_thr (G : Gd l w) (C : Cx w p e R s mid meth c m d hs) (r : Rel w h H) (hlo : ∀ q ∈ locs, bas w ≤ q.base) (hLR : LR w (mL m) lc ls) {k c0 sz : Nat} (hcl : clsOf (mC m) k = some (c0, sz)) (h9 : 9 ≤ c0) (ht : thr m pc c0 = true) (hr : room h 6 = true) (hlen : st.length ≤ 16) (hd : decode (mB m) pc = .ok (.new k, 3)) :
    W p l e R s mid args below meth c H locs cells slots (Fin w below s (.inr (hN h)) (hNew h c0 0 6) (capN - hN hs) (capU - hU hs)) (F0 mid pc ls (st.map (cv w))) := by
  obtain ⟨k1, k2, k3, k4⟩ := cw__ok hcl
  dsimp only at k1 k2 k3 k4
  unfold thr at ht
  split at ht
  · rename_i st0 ic hd3 hd4 hd6 hd9
    simp only [Bool.and_eq_true, List.any_eq_true, List.contains_iff_mem, List.isEmpty_iff] at ht
    obtain ⟨⟨⟨q, hq, hq2⟩, hex⟩, hnoh⟩ := ht
    obtain ⟨hq1, hq2⟩ := hq2
    have hq1 : q.1 = mC m := by simpa using hq1
    have hq2 : q.2.1 = st0 := by simpa using hq2
    obtain ⟨hex1, hex2⟩ := exc_ok _ hex
    dsimp only at hex1 hex2
    obtain ⟨sa, hsa⟩ := G.2.2.2.2.1 q hq
    rw [hq1, hq2] at hsa
    refine W.tg C r fun b1 b2 => ?_
    obtain ⟨g1, g2⟩ := C.room hr b1 b2
    have hsz : sz = 6 := by
      have := List.all_eq_true.mp hex1 (.instantiable (clN c0) 6) (by simp [exA])
      have h6 := G.word C.wm (A := args) (of_decide_eq_true this) rfl
      have hs6 := G.word C.wm (A := args) k2 rfl
      obtain ⟨x1, y1, f1, f2, -, -, -, f3⟩ := Jvm.Cond.instantiable_spec h6
      obtain ⟨x2, y2, e1, e2, -, -, -, e3⟩ := Jvm.Cond.instantiable_spec hs6
      cases f1.symm.trans e1
      cases f2.symm.trans e2
      exact e3.symm.trans f3
    subst hsz
    refine W.newc C.x C.b C.own (G.word C.wm k1 rfl) (G.word C.wm k2 rfl) (G.word C.wm k3 rfl) rfl hd g1 g2 fun cC kC f1 f2 f3 f4 => ?_
    refine lv_dup C.x C.b hd3 rfl ?_
    refine va_ldcS C.x C.b C.own (vk_R.warm C.wm hsa) hd4 ?_
    intro T hT X
    have hz := r.size
    have hr1 := r.1
    have hr' := room_spec hr
    have hroom := C.2.2.2
    have hcat := cat_cv (w := w) st
    have hnl : c.exceptionTable.toList = [] := by
      have := C.2.1.2.2.2
      unfold hxs at this
      rw [hnoh] at this
      simpa using this
    have hbs : bas w ≤ s.heap.size := by have := C.rel.1; omega
    obtain ⟨U, ce, hst, hrun, hend, hWU, hsame, hheap, hc1, hc2, hc3⟩ := ctorX X C.x (by rw [pl_eq X.admits]; exact G.2.2.2.2.2) C.own hex2 (x := c0) (ic := ic)
      (fun a ha => G.exw C.wm C.rel (of_decide_eq_true (List.all_eq_true.mp exS_ok a ha)) (by
        have := List.all_eq_true.mp exS_sp a ha
        simp only [Bool.or_eq_true, Bool.not_eq_true', decide_eq_true_eq] at this
        rcases this with (z | z) | z
        · exact Or.inl z
        · exact Or.inr (Or.inl z)
        · exact Or.inr (Or.inr z)))
      (fun a ha => G.exw C.wm C.rel (of_decide_eq_true (List.all_eq_true.mp hex1 a ha)) (Or.inl (by
        have := List.all_eq_true.mp (exA_sp (clN (mC m)) ic c0) a ha
        simpa using this)))
      ((G.stat C.wm C.rel lS1).2 G.2.2.2.1.1) ((G.stat C.wm C.rel lS2).2 G.2.2.2.1.2)
      (fun q hq cell hcell => C.rel.nost (hlo q hq) hcell)
      (a := H.size) (cX := cC) (kX := kC) f1 f2 (by rw [hT]; simp [freshCell]) (by have := X.same.2.1; have h9 : T.heap.size = H.size + 1 := by rw [hT]; simp
                                                                                   have h8 := C.rel.size; omega)
      (msg := .ref sa) rfl (g := F0 mid (pc + 3 + 1 + 2) ls (.ref sa :: .ref H.size :: .ref H.size :: st.map (cv w))) rfl (by rw [C.1.2.2.2]; exact hLR.2.1) rfl rfl rfl (by rw [C.b]; exact hd6) (by rw [C.b]; exact hd9)
      (fun y hy => by rw [hnl] at hy; cases hy) (by omega) (by
        have e9 : ((Value.ref H.size :: st.map (cv w)).map fun v => v.category).sum = 1 + ((st.map (cv w)).map fun v => v.category).sum := by rw [List.map_cons, List.sum_cons]; rfl
        show 2 * 0 + ((Value.ref H.size :: st.map (cv w)).map fun v => v.category).sum + 81 ≤ _
        rw [e9]
        omega) C.2.1.2.2.1
    have hrel : Rel w (hNew h c0 0 6) U.heap := by
      have hpush : U.heap = H.push ce := by
        rw [hheap, hT]
        apply Array.ext
        · simp
        · intro i h1 h2
          rw [Array.getElem_setIfInBounds (by simpa using h1)]
          by_cases hi : H.size = i
          · subst hi; simp
          · have : i < H.size := by simp at h2; omega
            rw [if_neg hi, Array.getElem_push_lt this, Array.getElem_push_lt this]
      refine r.new hpush rfl (by rw [hNew_U, hc3, f4]) (by rw [hNew_N]; omega) (by rw [hNew_U]; omega) (fun b hb => by rw [hNew_S, if_neg hb]) (hNew_oth h c0 0 6) (fun z => by rw [hNew_S, if_pos rfl] at z; dsimp only at z; omega) ?_
      obtain ⟨q, hq, hq'⟩ := clN_ex hex2
      rw [cellE_obj (k := c0) (by rw [hNew_S, if_pos rfl]) (by omega)]
      refine ⟨q, hq, ce, by rw [hpush, ← hz]; simp, ?_, hc2, fun j hj => ?_⟩
      · rw [hc1]
        have := ((G.K C.wm).1 _ _ hq).2.1
        rw [hq'] at this
        exact Option.some.inj (f1.symm.trans this)
      · rw [hq'] at hj; exact absurd hj (Nat.not_lt_zero _)
    refine ⟨U, hst, hrun, ?_, ⟨hrel, fun x hx => ?_⟩, hWU, locs, hsame.weaken (fun y hy _ => hy) (by omega) (by omega), hlo⟩
    · show Ended U below (.threw (bas w + (hN h - 2)))
      rw [← hz]; exact hend
    · cases hx
      rw [hNew_S, if_pos rfl, hNew_N]
      exact ⟨by omega, by omega, hex2⟩
  · cases ht
end TQ
