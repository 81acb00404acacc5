section NP
variable {p : Program} {l : Launch} {e : Env} {R : Room} {s : State} {mid : MethodId} {args : Array Value} {below : List Frame} {meth : Method} {c : Code} {H : Heap} {locs : List Loc} {cells slots : Nat} {Q : State → Prop}
variable {w : Wd} {m : Mr} {d pc : Nat} {hs h : Hp} {lc : Lc} {st : List Value} {ls : Array Slot} {X : Nx} {h' : Hp}
theorem hNew_oth (h : Hp) (k len n : Nat) : Oth h (hNew h k len n) (hN h) := fun b hb => ⟨by funext j; simp [hI, hNew, clr, hb], by funext j; simp [hL, hNew, clr, hb], by funext j; simp [hR, hNew, clr, hb], by funext j; simp [hD, hNew, clr, hb]⟩
theorem hNew_S (h : Hp) (k len n b : Nat) : hS (hNew h k len n) b = if b = hN h then (k, len) else hS h b := rfl
theorem hNew_N (h : Hp) (k len n : Nat) : hN (hNew h k len n) = hN h + 1 := rfl
theorem hNew_U (h : Hp) (k len n : Nat) : hU (hNew h k len n) = hU h + n := rfl
theorem hNew_I (h : Hp) (k len n j : Nat) : hI (hNew h k len n) (hN h) j = 0 := by simp [hI, hNew, clr]
theorem hNew_L (h : Hp) (k len n j : Nat) : hL (hNew h k len n) (hN h) j = 0 := by simp [hL, hNew, clr]
theorem hNew_R (h : Hp) (k len n j : Nat) : hR (hNew h k len n) (hN h) j = 0 := by simp [hR, hNew, clr]
theorem hNew_D (h : Hp) (k len n j : Nat) : hD (hNew h k len n) (hN h) j = 0 := by simp [hD, hNew, clr]
theorem room_spec {n : Nat} (hr : room h n = true) : hN h + 1 ≤ capN ∧ hU h + n ≤ capU := by
  unfold room at hr
  simp only [Bool.and_eq_true, decide_eq_true_eq] at hr
  exact ⟨hr.1, hr.2⟩
theorem fV_zero {k len n j t : Nat} {ty : FieldType} (ht : tgOf ty = t) (h4 : t < 4) : cv w (fV (hNew h k len n) (hN h) j t) = defaultValue ty := by
  subst ht
  cases ty <;> first | (exact absurd h4 (by decide)) | (simp [fV, tgOf, hNew_I, hNew_L, hNew_R, defaultValue, cv]; done) | rfl
/-- a live class by its number -/
theorem kls_get {k : Nat} (h9 : k < 9) : ∃ q, kls[k]? = some q := by
  match k, h9 with
  | 0, _ => exact ⟨_, rfl⟩
  | 1, _ => exact ⟨_, rfl⟩
  | 2, _ => exact ⟨_, rfl⟩
  | 3, _ => exact ⟨_, rfl⟩
  | 4, _ => exact ⟨_, rfl⟩
  | 5, _ => exact ⟨_, rfl⟩
  | 6, _ => exact ⟨_, rfl⟩
  | 7, _ => exact ⟨_, rfl⟩
  | 8, _ => exact ⟨_, rfl⟩
/-- the adress of the next cell -/
theorem Rel.next (r : Rel w h H) : Value.ref H.size = cv w (.ref (hN h)) := by
  have := r.1
  rw [cv_live w (by omega), r.size]
theorem hh_new (G : Gd l w) (C : Cx w p e R s mid meth c m d hs) (r : Rel w h H) (hlo : ∀ q ∈ locs, bas w ≤ q.base) {k c0 sz : Nat} (hcl : clsOf (mC m) k = some (c0, sz)) (h9 : c0 < 9) (hr : room h sz = true) (hd : decode (mB m) pc = .ok (.new k, 3)) {rest : List Value}
    (K : ∀ (H' : Heap) (cells' slots' : Nat), Rel w (hNew h c0 0 sz) H' → W p l e R s mid args below meth c H' locs cells' slots' Q (F0 mid (pc + 3) ls (cv w (.ref (hN h)) :: rest))) : W p l e R s mid args below meth c H locs cells slots Q (F0 mid pc ls rest) := by
  obtain ⟨k1, k2, k3, -⟩ := cw__ok hcl
  dsimp only at k1 k2 k3
  refine W.tg C r fun b1 b2 => ?_
  obtain ⟨g1, g2⟩ := C.room hr b1 b2
  refine W.newc C.x C.b C.own (G.word C.wm k1 rfl) (G.word C.wm k2 rfl) (G.word C.wm k3 rfl) rfl hd g1 g2 fun cC kC f1 f2 f3 f4 => ?_
  have hz := r.size
  have hr' := room_spec hr
  rw [r.next]
  refine K _ _ _ (r.new rfl rfl (by rw [hNew_U]; simp [f4]) (by rw [hNew_N]; omega) (by rw [hNew_U]; omega) (fun b hb => by rw [hNew_S, if_neg hb]) (hNew_oth h c0 0 sz) (fun z => by rw [hNew_S, if_pos rfl] at z; dsimp only at z; omega) ?_)
  obtain ⟨q, hq⟩ := kls_get h9
  obtain ⟨hN', hCn, hu, hnm, hty, htgs, ht4⟩ := kinfo h9 hq
  obtain ⟨C0, T, N⟩ := q
  dsimp only at hN' hCn hu hnm hty htgs ht4
  rw [cellE_obj (k := c0) (by rw [hNew_S, if_pos rfl]) (by omega)]
  refine ⟨_, hq, ?_⟩
  have hK := (G.K C.wm).1 _ _ hq
  dsimp only at hK
  have hcC : cC = (wD w).1 c0 := by
    have := hK.2.1
    rw [hCn] at this
    exact Option.some.inj (f1.symm.trans this)
  subst hcC
  have hb := u_born (o := bas w + (hN h - 2)) (H := H.push { cls := (wD w).1 c0, slots := kC.instanceTypes.map defaultValue, vm := .none }) (tyK c0) (G.gtb C.wm (A := args)) (uin_gtb hu) hK f2 (by rw [← hz]; simp [blank]) hty
  refine hb.to fun j hj => ?_
  unfold vp_V
  rw [List.getD_eq_getElem?_getD, fls_get (by omega), Option.getD_some]
  exact (fV_zero (htgs j hj) (ht4 j hj)).symm
theorem hh_newa (G : Gd l w) (C : Cx w p e R s mid meth c m d hs) (r : Rel w h H) (hlo : ∀ q ∈ locs, bas w ≤ q.base) (hL : LR w (mL m) lc ls) {t : ClassFile.ArrayType} {k : Nat} (ht : atk t = some k) (hd : decode (mB m) pc = .ok (.newarray t, 2)) (h0 : nwA k (pc + 2) lc st h = some (.inl (X.1, X.2.1, X.2.2, h'))) (K : Kh p l e R s mid args below meth c Q w (mL m) X h') :
    W p l e R s mid args below meth c H locs cells slots Q (F0 mid pc ls (st.map (cv w))) := by
  obtain ⟨pc', lc', st'⟩ := X
  unfold nwA at h0
  split at h0
  · rename_i n r1
    split at h0
    · rename_i hc
      obtain ⟨hn, hle, hr⟩ := hc
      simp only [Option.some.injEq, Sum.inl.injEq, Prod.mk.injEq] at h0
      obtain ⟨rfl, rfl, rfl, rfl⟩ := h0
      refine W.tg C r fun b1 b2 => ?_
      obtain ⟨g1, g2⟩ := C.room hr b1 b2
      have hz := r.size
      have hr' := room_spec hr
      have key : ∀ (ty : FieldType) (i : Nat), newarray.typeOf t = ty → atyps[i]? = some (k, ty) → Jvm.Cond.arrayClass ty ∈ lw_tbl → componentBytes ty ≤ 8 → (∀ q : ClassId, q = wA w k → va_at (wD w) kls (bas w + (hN h - 2), cellE w (hNew h k n.toNatClampNeg n.toNatClampNeg) (hN h)) (H.push (arrV q n.toNatClampNeg (fun _ => defaultValue ty)))) → (∀ {cA : ClassId}, s.vm.findClass ("[" ++ ty.toString) = some cA → cA = wA w k) → W p l e R s mid args below meth c H locs (hN h - hN hs) (hU h - hU hs) Q (F0 mid pc ls (List.map (cv w) (Value.int n :: r1))) := by
        intro ty i e1 e2 e3 e4 e5 e6
        have hty : ∀ b, b * componentBytes ty ≤ b * 8 := fun b => Nat.mul_le_mul_left b e4
        refine W.newa (atype := t) C.x C.b (by rw [e1]; exact G.word C.wm e3 rfl) rfl hd (n := n) (rest := r1.map (cv w)) rfl hn (by rw [e1]; have := hty n.toNatClampNeg; omega) g1 g2 fun cA kA comp f1 f2 f3 => ?_
        rw [e1] at f1
        have hcA : cA = wA w k := e6 f1
        rw [r.next, e1, arrV_new]
        refine K _ _ _ _ ls (r.new rfl rfl (by rw [hNew_U, arrV_size]) (by rw [hNew_N]; omega) (by rw [hNew_U]; omega) (fun b hb => by rw [hNew_S, if_neg hb]) (hNew_oth h k _ _) (fun z j => by rw [hNew_I]; decide) (e5 cA hcA)) hlo hL
      have hat : ∀ (q : ClassId) (f : Nat → Value), (H.push (arrV q n.toNatClampNeg f))[bas w + (hN h - 2)]? = some (arrV q n.toNatClampNeg f) := fun q f => by rw [← hz]; simp
      cases t <;> first | (cases ht; done) | skip
      · cases ht
        refine key .double 3 rfl rfl ac_D (by decide) (fun q hq => ?_) (fun {cA} f => ?_)
        · subst hq
          unfold cellE
          rw [hNew_S, if_pos rfl]
          show _ = some (vp_cell _ _)
          rw [vp_cell_d, hat]
          simp only [hNew_D]; rfl
        · have := (G.KA C.wm 3 (k := 23) rfl).2
          exact Option.some.inj (f.symm.trans this)
      · cases ht
        refine key .byte 2 rfl rfl ac_B (by decide) (fun q hq => ?_) (fun {cA} f => ?_)
        · subst hq
          unfold cellE
          rw [hNew_S, if_pos rfl]
          show _ = some (vp_cell _ _)
          rw [vp_cell_i, hat]
          simp only [hNew_I]; rfl
        · have := (G.KA C.wm 2 (k := 22) rfl).2
          exact Option.some.inj (f.symm.trans this)
      · cases ht
        refine key .int 0 rfl rfl ac_I (by decide) (fun q hq => ?_) (fun {cA} f => ?_)
        · subst hq
          unfold cellE
          rw [hNew_S, if_pos rfl]
          show _ = some (vp_cell _ _)
          rw [vp_cell_i, hat]
          simp only [hNew_I]; rfl
        · have := (G.KA C.wm 0 (k := 20) rfl).2
          exact Option.some.inj (f.symm.trans this)
      · cases ht
        refine key .long 1 rfl rfl ac_L (by decide) (fun q hq => ?_) (fun {cA} f => ?_)
        · subst hq
          unfold cellE
          rw [hNew_S, if_pos rfl]
          show _ = some (vp_cell _ _)
          rw [vp_cell_l, hat]
          simp only [hNew_L]; rfl
        · have := (G.KA C.wm 1 (k := 21) rfl).2
          exact Option.some.inj (f.symm.trans this)
    · cases h0
  · cases h0
theorem hh_anew (G : Gd l w) (C : Cx w p e R s mid meth c m d hs) (r : Rel w h H) (hlo : ∀ q ∈ locs, bas w ≤ q.base) (hL : LR w (mL m) lc ls) {k : Nat} (hcl : clsOf (mC m) k = some (2, 16)) (hd : decode (mB m) pc = .ok (.anewarray k, 3)) (h0 : nwA 24 (pc + 3) lc st h = some (.inl (X.1, X.2.1, X.2.2, h'))) (K : Kh p l e R s mid args below meth c Q w (mL m) X h') :
    W p l e R s mid args below meth c H locs cells slots Q (F0 mid pc ls (st.map (cv w))) := by
  obtain ⟨pc', lc', st'⟩ := X
  unfold nwA at h0
  split at h0
  · rename_i n r1
    split at h0
    · rename_i hc
      obtain ⟨hn, hle, hr⟩ := hc
      simp only [Option.some.injEq, Sum.inl.injEq, Prod.mk.injEq] at h0
      obtain ⟨rfl, rfl, rfl, rfl⟩ := h0
      obtain ⟨k1, k2, k3, -⟩ := cw__ok hcl
      refine W.tg C r fun b1 b2 => ?_
      obtain ⟨g1, g2⟩ := C.room hr b1 b2
      have hz := r.size
      have hr' := room_spec hr
      have hao : va_AO "FormatForge$Node" s := va_AO.moved C.wm.alike (va_AO.of (G.1.1 _ ao_N))
      refine W.anew (C := "FormatForge$Node") C.x C.b C.own (G.word C.wm k1 rfl) hao.use rfl hd (n := n) (rest := r1.map (cv w)) rfl hn (by omega) g1 g2 fun cA kA comp f1 f2 f3 f4 => ?_
      have hcA : cA = wA w 24 := by
        obtain ⟨_, _, _, _, _, f⟩ := (G.KA C.wm 4 (k := 24) rfl).2
        exact Option.some.inj (f1.symm.trans f)
      subst hcA
      rw [r.next, arrV_new]
      refine K _ _ _ _ ls (r.new rfl rfl (by rw [hNew_U, arrV_size]) (by rw [hNew_N]; omega) (by rw [hNew_U]; omega) (fun b hb => by rw [hNew_S, if_neg hb]) (hNew_oth h 24 _ _) (fun z j => by rw [hNew_I]; decide) ?_) hlo hL
      unfold cellE
      rw [hNew_S, if_pos rfl]
      show _ = some (vp_cell _ _)
      rw [vp_cell_q, ← hz]
      simp only [hNew_R]
      simp [rfo, va_rf]
    · cases h0
  · cases h0
theorem hh_cst (G : Gd l w) (C : Cx w p e R s mid meth c m d hs) {k : Nat} {v : Value} (hv : cstOf (mC m) k = some v) (hd : decode (mB m) pc = .ok (.ldc2_w k, 3)) {rest : List Value} (K : W p l e R s mid args below meth c H locs cells slots Q (F0 mid (pc + 3) ls (cv w v :: rest))) : W p l e R s mid args below meth c H locs cells slots Q (F0 mid pc ls rest) := by
  rcases kw__ok hv with ⟨x, rfl, hw⟩ | ⟨x, rfl, hw⟩
  · exact lv_ldc2 C.x C.b C.own (G.word C.wm hw rfl) hd K
  · exact lv_ldc2d C.x C.b C.own (G.word C.wm hw rfl) hd K
theorem cat_le (r : List Value) : (r.map fun v => v.category).sum ≤ 2 * r.length := by
  induction r with
  | nil => simp
  | cons a t ih =>
    have : a.category ≤ 2 := by rcases lv_cat a with q | q <;> omega
    simp only [List.map_cons, List.sum_cons, List.length_cons]
    omega
theorem cat_cv (r : List Value) : ((r.map (cv w)).map fun v => v.category).sum ≤ 2 * r.length := by
  have := cat_le (r.map (cv w))
  simpa using this
theorem hh_oin (G : Gd l w) (C : Cx w p e R s mid meth c m d hs) (r : Rel w h H) (hlo : ∀ q ∈ locs, bas w ≤ q.base) (hL : LR w (mL m) lc ls) {k : Nat} (hw : Jvm.Cond.methodLink (clN (mC m)) k Lib.objectInit ∈ lw_tbl) (hd : decode (mB m) pc = .ok (.invokespecial k, 3)) (h0 : oin pc lc st h = some (.inl (X.1, X.2.1, X.2.2, h'))) (K : Kh p l e R s mid args below meth c Q w (mL m) X h') :
    W p l e R s mid args below meth c H locs cells slots Q (F0 mid pc ls (st.map (cv w))) := by
  obtain ⟨pc', lc', st'⟩ := X
  unfold oin at h0
  split at h0
  · rename_i a r1
    split at h0
    · rename_i hc
      simp only [Option.some.injEq, Sum.inl.injEq, Prod.mk.injEq] at h0
      obtain ⟨rfl, rfl, rfl, rfl⟩ := h0
      have hroom := C.2.2.2
      have hcat := cat_cv (w := w) r1
      show W p l e R s mid args below meth c H locs cells slots Q (F0 mid pc ls (cv w (.ref a) :: r1.map (cv w)))
      rw [cv_live w hc.1]
      exact W.objInit C.x C.b C.own (G.word C.wm hw rfl) (G.word C.wm oi_i rfl) (G.word C.wm oi_c rfl) rfl (by rw [C.1.2.2.2]; exact hL.2.1) rfl hd (by omega) (by show 2 * 0 + _ + 12 ≤ _; omega) (K H locs cells slots ls r hlo hL)
    · cases h0
  · cases h0
theorem hh_mth (G : Gd l w) (C : Cx w p e R s mid meth c m d hs) (r : Rel w h H) (hlo : ∀ q ∈ locs, bas w ≤ q.base) (hL : LR w (mL m) lc ls) {k kd n : Nat} {ts : List (Nat × Mr)} (hcal : calOf (mC m) k = some (kd, n, ts)) (hd : decode (mB m) pc = .ok (.invokestatic k, 3)) (h0 : mth kd pc lc st h = some (.inl (X.1, X.2.1, X.2.2, h'))) (K : Kh p l e R s mid args below meth c Q w (mL m) X h') :
    W p l e R s mid args below meth c H locs cells slots Q (F0 mid pc ls (st.map (cv w))) := by
  have hso := sites_ok hcal
  obtain ⟨pc', lc', st'⟩ := X
  have hroom := C.2.2.2
  have hml : c.maxLocals = ls.size := by rw [C.1.2.2.2]; exact hL.2.1.symm
  unfold mth at h0
  split at h0
  · rename_i y x r1
    split at h0
    · rename_i hc
      simp only [Option.some.injEq, Sum.inl.injEq, Prod.mk.injEq] at h0
      obtain ⟨rfl, rfl, rfl, rfl⟩ := h0
      have hcat := cat_cv (w := w) r1
      refine W.tg C r fun b1 b2 => ?_
      exact va_mmax C.x C.b hml C.own (G.word C.wm hso rfl) (G.word C.wm mxI_s rfl) (G.word C.wm ma_i rfl) (G.word C.wm mxI_c rfl) (by omega) (by omega) (by have := r.1; omega) (by have := r.1; omega) hd (K H locs _ _ ls r hlo hL)
    · cases h0
  · rename_i y x r1
    split at h0
    · rename_i hc
      simp only [Option.some.injEq, Sum.inl.injEq, Prod.mk.injEq] at h0
      obtain ⟨rfl, rfl, rfl, rfl⟩ := h0
      have hcat := cat_cv (w := w) r1
      refine W.tg C r fun b1 b2 => ?_
      exact va_mmin C.x C.b hml C.own (G.word C.wm hso rfl) (G.word C.wm mnI_s rfl) (G.word C.wm ma_i rfl) (G.word C.wm mnI_c rfl) (by omega) (by omega) (by have := r.1; omega) (by have := r.1; omega) hd (K H locs _ _ ls r hlo hL)
    · cases h0
  · rename_i y x r1
    split at h0
    · rename_i hc
      simp only [Option.some.injEq, Sum.inl.injEq, Prod.mk.injEq] at h0
      obtain ⟨rfl, rfl, rfl, rfl⟩ := h0
      have hcat := cat_cv (w := w) r1
      refine W.tg C r fun b1 b2 => ?_
      exact va_mmax_long C.x C.b hml C.own (G.word C.wm hso rfl) (G.word C.wm mxL_s rfl) (G.word C.wm ma_i rfl) (G.word C.wm mxL_c rfl) (by omega) (by omega) (by have := r.1; omega) (by have := r.1; omega) hd (K H locs _ _ ls r hlo hL)
    · cases h0
  · rename_i y x r1
    split at h0
    · rename_i hc
      simp only [Option.some.injEq, Sum.inl.injEq, Prod.mk.injEq] at h0
      obtain ⟨rfl, rfl, rfl, rfl⟩ := h0
      have hcat := cat_cv (w := w) r1
      refine W.tg C r fun b1 b2 => ?_
      exact va_mmin_long C.x C.b hml C.own (G.word C.wm hso rfl) (G.word C.wm mnL_s rfl) (G.word C.wm ma_i rfl) (G.word C.wm mnL_c rfl) (by omega) (by omega) (by have := r.1; omega) (by have := r.1; omega) hd (K H locs _ _ ls r hlo hL)
    · cases h0
  · cases h0
end NP
