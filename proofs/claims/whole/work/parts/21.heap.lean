/-- where a walk of the method m stands: its start is s, with the heap hs; d calls more may nest -/
def Cx (w : Wd) (p : Program) (e : Env) (R : Room) (s : State) (mid : MethodId) (meth : Method) (c : Code) (m : Mr) (d : Nat) (hs : Hp) : Prop :=
  (p.tables.exec = Jvm.exec ∧ c.code = mB m ∧ meth.sig.returnType = mR m ∧ c.maxLocals = mL m) ∧ (s.vm.findClass (clN (mC m)) = some mid.cls ∧ (mI m = true → meth.name = "<init>") ∧ meth.locks = false ∧ c.exceptionTable.toList.map (fun h => (h.startPc, h.endPc, h.handlerPc, h.catchType)) = hxs m) ∧
  ((wS w).WarmedH s.vm ∧ Rel w hs s.heap) ∧ (d + 8 ≤ R.frames ∧ (d + 1) * 80 + 300 ≤ R.locals ∧ capN - hN hs ≤ R.cells ∧ capU - hU hs ≤ R.slots)
section HP
variable {p : Program} {l : Launch} {e : Env} {R : Room} {s : State} {mid : MethodId} {args : Array Value} {below : List Frame} {meth : Method} {c : Code} {H : Heap} {locs : List Loc} {cells slots : Nat} {Q : State → Prop}
variable {w : Wd} {m : Mr} {d pc : Nat} {hs h : Hp} {lc : Lc} {st : List Value} {ls : Array Slot} {X : Nx} {h' : Hp}
theorem Cx.x (C : Cx w p e R s mid meth c m d hs) : p.tables.exec = Jvm.exec := C.1.1
theorem Cx.b (C : Cx w p e R s mid meth c m d hs) : c.code = mB m := C.1.2.1
theorem Cx.own (C : Cx w p e R s mid meth c m d hs) : s.vm.findClass (clN (mC m)) = some mid.cls := C.2.1.1
theorem Cx.wm (C : Cx w p e R s mid meth c m d hs) : (wS w).WarmedH s.vm := C.2.2.1.1
theorem Cx.rel (C : Cx w p e R s mid meth c m d hs) : Rel w hs s.heap := C.2.2.1.2
/-- what is to be shown behind a step that may move the heap -/
def Kh (p : Program) (l : Launch) (e : Env) (R : Room) (s : State) (mid : MethodId) (args : Array Value) (below : List Frame) (meth : Method) (c : Code) (Q : State → Prop) (w : Wd) (nL : Nat) (X : Nx) (h' : Hp) : Prop :=
  ∀ (H' : Heap) (locs' : List Loc) (cells' slots' : Nat) (ls' : Array Slot), Rel w h' H' → (∀ q ∈ locs', bas w ≤ q.base) → LR w nL X.2.1 ls' → W p l e R s mid args below meth c H' locs' cells' slots' Q (F0 mid X.1 ls' (X.2.2.map (cv w)))
theorem W.tg (C : Cx w p e R s mid meth c m d hs) (r : Rel w h H) {g : JFrame} (k : hN hs ≤ hN h → hU hs ≤ hU h → W p l e R s mid args below meth c H locs (hN h - hN hs) (hU h - hU hs) Q g) : W p l e R s mid args below meth c H locs cells slots Q g := by
  intro T hT X
  obtain ⟨a, b1, b2⟩ := tight X C.rel (by rw [hT]; exact r)
  exact k b1 b2 T hT a
/-- room for one cell more -/
theorem Cx.room (C : Cx w p e R s mid meth c m d hs) {n : Nat} (hr : room h n = true) (b1 : hN hs ≤ hN h) (b2 : hU hs ≤ hU h) : hN h - hN hs + 1 ≤ R.cells ∧ hU h - hU hs + n ≤ R.slots := by
  unfold Jvm.Pilot.CFormatForgeLaw_law_r3003_2a6900.room at hr
  simp only [Bool.and_eq_true, decide_eq_true_eq] at hr
  have := C.2.2.2
  omega
theorem uin_gtb {C : String} {T : u_T} {N : Nat} (h : ∀ c ∈ u_ws C T N, c ∈ lw_tbl) : ∀ c ∈ u_ws C T N, c ∈ gtb := fun c hc => by
  refine in_gtb (h c hc) ?_
  obtain ⟨k, -, rfl⟩ := List.mem_map.mp hc
  unfold u_lay
  split <;> rfl
theorem locs_add {b x i : Nat} (hlo : ∀ q ∈ locs, b ≤ q.base) (hx : b ≤ x) : ∀ q ∈ locs ++ [(⟨x, i⟩ : Loc)], b ≤ q.base := fun q hq => by
  rcases List.mem_append.mp hq with h | h
  · exact hlo q h
  · rw [List.mem_singleton.mp h]; exact hx
theorem hh_get (G : Gd l w) (C : Cx w p e R s mid meth c m d hs) (r : Rel w h H) (hlo : ∀ q ∈ locs, bas w ≤ q.base) (hL : LR w (mL m) lc ls) {k : Nat} (hd : decode (mB m) pc = .ok (.getfield k, 3)) (h0 : gF m k pc lc st h = some (.inl (X.1, X.2.1, X.2.2, h'))) (K : Kh p l e R s mid args below meth c Q w (mL m) X h') : W p l e R s mid args below meth c H locs cells slots Q (F0 mid pc ls (st.map (cv w))) := by
  obtain ⟨pc', lc', st'⟩ := X
  unfold gF at h0
  split at h0
  · rename_i cs j t fin rf a r1 hf
    split at h0
    · rename_i hc
      simp only [Option.some.injEq, Sum.inl.injEq, Prod.mk.injEq] at h0
      obtain ⟨rfl, rfl, rfl, rfl⟩ := h0
      have hmem : (hS h a).1 ∈ cs := by simpa using hc
      obtain ⟨q, hq, hj, hlink, hsame, -, htg, -, h9⟩ := flds_ok hf _ hmem
      obtain ⟨C0, T, N⟩ := q
      obtain ⟨hN', hCn, hu, hnm, hty, htgs, -⟩ := kinfo h9 hq
      dsimp only at hj hlink hsame htg hN' hCn hu hnm hty htgs
      have hlive := r.liveK (k := (hS h a).1) rfl (by omega) (by omega)
      have hat := r.2.2.1 a hlive.1 hlive.2
      rw [cellE_obj rfl (by omega)] at hat
      have hP : va_P (wD w) kls [(bas w + (a - 2), .inr ((hS h a).1, fls w h a (hS h a).1))] H := fun k q hk => by
        cases k with
        | zero => cases hk; exact hat
        | succ k => simp at hk
      show W p l e R s mid args below meth c H locs cells slots Q (F0 mid pc ls (cv w (.ref a) :: r1.map (cv w)))
      rw [cv_live w hlive.1]
      refine va_get (D := wD w) (cl := kls) (T := T) (N := N) (C := C0) C.x C.b (Ts := gtb) (G.gtb C.wm) (uin_gtb hu) C.own (G.K C.wm) hP 0 rfl hq j hj (G.word C.wm hlink rfl) (fun x hx => ?_) (v := cv w (fV h a j t)) ?_ hd (K H locs cells slots ls r hlo hL)
      · rcases hsame with h1 | h1
        · rw [← h1]; exact hx
        · exact u_same (G.word C.wm (A := args) h1 rfl) x hx
      · rw [← htg]; exact fls_get (by omega)
    · cases h0
  · cases h0
theorem fV_put {j j' t t' : Nat} {a : Nat} {v : Value} (hp : pV h a j t v = some h') (ht : t' = t) : cv w (fV h' a j' t') = if j' = j then cv w v else cv w (fV h a j' t') := by
  subst ht
  unfold pV at hp
  split at hp
  · injection hp with hp; subst hp
    by_cases e : j' = j <;> simp [fV, hI, sI, up2, e]
  · injection hp with hp; subst hp
    by_cases e : j' = j <;> simp [fV, hL, sL, up2, e]
  · injection hp with hp; subst hp
    by_cases e : j' = j <;> simp [fV, hR, sR, up2, e]
  · split at hp
    · injection hp with hp; subst hp
      by_cases e : j' = j <;> simp [fV, hI, sI, up2, e]
    · cases hp
  · cases hp
theorem fV_other {j j' t t' : Nat} {a b : Nat} {v : Value} (hp : pV h a j t v = some h') (hj : ¬ (b = a ∧ j' = j)) : fV h' b j' t' = fV h b j' t' := by
  unfold pV at hp
  have hj' : b = a → ¬ j' = j := fun q z => hj ⟨q, z⟩
  split at hp
  · injection hp with hp; subst hp
    unfold fV; split <;> simp [hI, hL, hR, sI, up2] <;> exact fun q z => absurd z (hj' q)
  · injection hp with hp; subst hp
    unfold fV; split <;> simp [hI, hL, hR, sL, up2] <;> exact fun q z => absurd z (hj' q)
  · injection hp with hp; subst hp
    unfold fV; split <;> simp [hI, hL, hR, sR, up2] <;> exact fun q z => absurd z (hj' q)
  · split at hp
    · injection hp with hp; subst hp
      unfold fV; split <;> simp [hI, hL, hR, sI, up2] <;> exact fun q z => absurd z (hj' q)
    · cases hp
  · cases hp
/-- a put touches one cell alone -/
theorem pV_same {j t a : Nat} {v : Value} (hp : pV h a j t v = some h') : hN h' = hN h ∧ hU h' = hU h ∧ hS h' = hS h ∧ Oth h h' a := by
  unfold pV at hp
  split at hp
  · injection hp with hp; subst hp
    exact ⟨rfl, rfl, rfl, fun b hb => ⟨by funext k; simp [hI, sI, up2, hb], rfl, rfl, rfl⟩⟩
  · injection hp with hp; subst hp
    exact ⟨rfl, rfl, rfl, fun b hb => ⟨rfl, by funext k; simp [hL, sL, up2, hb], rfl, rfl⟩⟩
  · injection hp with hp; subst hp
    exact ⟨rfl, rfl, rfl, fun b hb => ⟨rfl, rfl, by funext k; simp [hR, sR, up2, hb], rfl⟩⟩
  · split at hp
    · injection hp with hp; subst hp
      exact ⟨rfl, rfl, rfl, fun b hb => ⟨by funext k; simp [hI, sI, up2, hb], rfl, rfl, rfl⟩⟩
    · cases hp
  · cases hp
/-- what may be stored where: the kind of a field and of a value -/
theorem put_fits {t : Nat} {ty : FieldType} {a j : Nat} {v : Value} (ht : tgOf ty = t) (hp : pV h a j t v = some h') : narrow ty (cv w v) = cv w v ∧ fits ty (cv w v) = true := by
  unfold pV at hp
  split at hp
  · cases ty <;> first | (cases ht; done) | exact ⟨rfl, rfl⟩
  · cases ty <;> first | (cases ht; done) | exact ⟨rfl, rfl⟩
  · rename_i x
    rcases cv_ref w x with ⟨-, q⟩ | ⟨-, b, q⟩ <;> rw [q] <;> cases ty <;> first | (cases ht; done) | exact ⟨rfl, rfl⟩
  · rename_i x
    split at hp
    · rename_i hx
      cases ty <;> first | (cases ht; done) | (rcases hx with rfl | rfl <;> exact ⟨by first | rfl | (show narrow .boolean (Value.int _) = Value.int _; decide), by first | rfl | (show fits .boolean (Value.int _) = true; decide)⟩)
    · cases hp
  · cases hp
theorem hh_put (G : Gd l w) (C : Cx w p e R s mid meth c m d hs) (r : Rel w h H) (hlo : ∀ q ∈ locs, bas w ≤ q.base) (hL : LR w (mL m) lc ls) {k : Nat} (hd : decode (mB m) pc = .ok (.putfield k, 3)) (h0 : pF m k pc lc st h = some (.inl (X.1, X.2.1, X.2.2, h'))) (K : Kh p l e R s mid args below meth c Q w (mL m) X h') : W p l e R s mid args below meth c H locs cells slots Q (F0 mid pc ls (st.map (cv w))) := by
  obtain ⟨pc', lc', st'⟩ := X
  unfold pF at h0
  split at h0
  · rename_i cs j t fin rf v a r1 hf
    split at h0
    · rename_i hc
      obtain ⟨hc, hfin⟩ := hc
      split at h0
      · rename_i h2 hpv
        simp only [Option.some.injEq, Sum.inl.injEq, Prod.mk.injEq] at h0
        obtain ⟨rfl, rfl, rfl, rfl⟩ := h0
        have hmem : (hS h a).1 ∈ cs := by simpa using hc
        obtain ⟨q, hq, hj, hlink, hsame, hfi, htg, hdecl, h9⟩ := flds_ok hf _ hmem
        obtain ⟨C0, T, N⟩ := q
        obtain ⟨hN', hCn, hu, hnm, hty, htgs, -⟩ := kinfo h9 hq
        dsimp only at hj hlink hsame hfi htg hdecl hN' hCn hu hnm hty htgs
        have hlive := r.liveK (k := (hS h a).1) rfl (by omega) (by omega)
        have hat := r.2.2.1 a hlive.1 hlive.2
        rw [cellE_obj rfl (by omega)] at hat
        obtain ⟨e1, e2, e3, e4⟩ := pV_same hpv
        show W p l e R s mid args below meth c H locs cells slots Q (F0 mid pc ls (cv w v :: cv w (.ref a) :: r1.map (cv w)))
        rw [cv_live w hlive.1]
        have hap := va_apart (own := C0) (s := s) (args := args) (tys := atyps.map fun q => (wA w q.1, q.2)) (G.gtb C.wm) (uin_gtb hu) (tyK (hS h a).1) hty hnm (G.K C.wm) hq
        obtain ⟨r', h1, cell, q1, q2, q3, q4⟩ := hat
        have hr' : r' = (C0, T, N) := Option.some.inj (h1.symm.trans hq)
        subst hr'
        dsimp only at q2 q4
        obtain ⟨hSl, hfc, kC, hkC, hkind⟩ := (G.K C.wm).1 _ _ hq
        obtain ⟨cf, kf, fi, f, hi, hsl⟩ := hSl j hj
        dsimp only at hi hsl hfc
        have hlays := u_lays (G.gtb C.wm (A := args)) (uin_gtb hu) hj
        have hst := (u_facts hfc hkC hlays hi).1
        have hfit := put_fits (w := w) (ty := tyK (hS h a).1 j) (by rw [htgs j hj, htg]) hpv
        have hfound : s.fieldFound? rf (T j).2.1 (T j).2.2.1 = some (cf, kf, fi, f) := by
          rcases hsame with g1 | g1
          · rw [← g1]; exact hi
          · exact u_same (G.word C.wm (A := args) g1 rfl) _ hi
        have fin' : ∀ H' : Heap, H'[bas w + (a - 2)]? = some (cell.setSlot f.slot (cv w v)) → H'.size = H.size → (∀ q, q ≠ bas w + (a - 2) → H'[q]? = H[q]?) → W p l e R s mid args below meth c H' (locs ++ [⟨bas w + (a - 2), f.slot⟩]) cells slots Q (F0 mid (pc + 3) ls (r1.map (cv w))) := by
          intro H' z1 z2 z3
          refine K H' _ cells slots ls (r.put hlive e1 e2 e3 e4 (fun z => absurd z (by omega)) q1 z1 (by simp [Cell.setSlot]) z2 z3 ?_) (locs_add hlo (by omega)) hL
          · rw [cellE_obj (by rw [e3]) (by omega)]
            refine ⟨_, hq, t_OB.to (V := updV (vp_V (fls w h a (hS h a).1)) j (cv w v)) ⟨_, z1, q2, q3, ?_⟩ (fun j' hj' => ?_)⟩
            · rw [hsl]; exact t_set q4 hap hj _
            · dsimp only at hj'
              unfold updV vp_V
              rw [List.getD_eq_getElem?_getD, List.getD_eq_getElem?_getD, fls_get (by omega), fls_get (by omega), Option.getD_some, Option.getD_some]
              by_cases ej : j' = j
              · subst ej
                rw [if_pos rfl, fV_put hpv (by rw [htg]), if_pos rfl]
              · rw [if_neg ej, fV_other hpv (fun z => ej z.2)]
        cases fin with
        | false =>
          have hlay := G.word C.wm (A := args) (hu _ (u_in_lay hj)) (by unfold u_lay; split <;> rfl)
          unfold u_lay at hlay
          rw [if_neg (by rw [hfi]; decide)] at hlay
          have h6 := u_store hfc hkC hkind hlay hi (hty j hj) hfit.1 hfit.2
          exact W.putK C.x C.b (f := f) ⟨C.own, G.word C.wm hlink rfl, ⟨_, _, _, hfound⟩, hst⟩ (by rw [q2]; exact h6) q1 q3 (by rw [hsl]; exact k2_hasslot (q4 j hj)) rfl rfl hd fin'
        | true =>
          have hi2 : mI m = true := by
            rcases hfin with z | z
            · cases z
            · exact z
          have hlay := G.word C.wm (A := args) (hu _ (u_in_lay hj)) (by unfold u_lay; split <;> rfl)
          unfold u_lay at hlay
          rw [if_pos hfi] at hlay
          have hcf : mid.cls = cf := by
            obtain ⟨_, _, c', _, _, _, -, -, hf', -, -, -, hown2, -⟩ := Jvm.Cond.laysFinal_spec hlay
            have e1 : c' = cf := by have := hi.symm.trans hf'; simp at this; exact this.1.symm
            rw [hdecl rfl] at hown2
            rw [← e1]; exact Option.some.inj (C.own.symm.trans hown2)
          exact W.putFinK C.x C.b C.own (G.word C.wm hlink rfl) hfound hst hcf (C.2.1.2.1 hi2) (by rw [q2]; exact u_fits hfc hkC hkind (Or.inr hlay) hi (hty j hj) hfit.1 hfit.2) q1 q3 (by rw [hsl]; exact k2_hasslot (q4 j hj)) rfl rfl hd fin'
      · cases h0
    · cases h0
  · cases h0
end HP
