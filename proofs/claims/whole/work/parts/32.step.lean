section STEP
variable {p : Program} {l : Launch} {e : Env} {R : Room} {s : State} {mid : MethodId} {args : Array Value} {below : List Frame} {meth : Method} {c : Code} {H : Heap} {locs : List Loc} {cells slots : Nat} {Q : State → Prop}
variable {w : Wd} {m m' : Mr} {d pc n : Nat} {hs h h' : Hp} {lc : Lc} {st as rs : List Value} {ls : Array Slot} {i : Instr} {rr : Rs} {X : Nx}
/-- an instruction that neither ends the method nor calls -/
def IsL (o : Option Ac) : Prop := ∀ A, o = some A → ∃ Y, A = Sum.inl Y
theorem IsL.none : IsL none := fun _ h => by cases h
theorem IsL.inl (Y : Nat × Lc × List Value × Hp) : IsL (some (.inl Y)) := fun _ h => ⟨Y, (Option.some.inj h).symm⟩
theorem IsL.ite {P : Prop} [Decidable P] {a b : Option Ac} (ha : IsL a) (hb : IsL b) : IsL (if P then a else b) := by
  split
  · exact ha
  · exact hb
theorem IsL.gF {k : Nat} : IsL (gF m k pc lc st h) := by
  unfold Jvm.Pilot.CFormatForgeLaw_law_r3003_2a6900.gF
  repeat' split
  all_goals first | exact IsL.none | exact IsL.inl _
theorem IsL.pF {k : Nat} : IsL (pF m k pc lc st h) := by
  unfold Jvm.Pilot.CFormatForgeLaw_law_r3003_2a6900.pF
  repeat' split
  all_goals first | exact IsL.none | exact IsL.inl _
theorem IsL.aLd {k : Nat} {f : Hp → Nat → Nat → Value} : IsL (aLd k f pc lc st h) := by
  unfold Jvm.Pilot.CFormatForgeLaw_law_r3003_2a6900.aLd
  repeat' split
  all_goals first | exact IsL.none | exact IsL.inl _
theorem IsL.aSt {k : Nat} {f : Hp → Nat → Nat → Value → Option Hp} : IsL (aSt k f pc lc st h) := by
  unfold Jvm.Pilot.CFormatForgeLaw_law_r3003_2a6900.aSt
  repeat' split
  all_goals first | exact IsL.none | exact IsL.inl _
theorem IsL.nwA {k : Nat} : IsL (nwA k pc lc st h) := by
  unfold Jvm.Pilot.CFormatForgeLaw_law_r3003_2a6900.nwA
  repeat' split
  all_goals first | exact IsL.none | exact IsL.inl _
theorem IsL.cpA : IsL (cpA pc lc st h) := by
  unfold Jvm.Pilot.CFormatForgeLaw_law_r3003_2a6900.cpA
  split
  · exact IsL.ite (IsL.inl _) IsL.none
  · exact IsL.none
theorem IsL.mth {k : Nat} : IsL (mth k pc lc st h) := by
  unfold Jvm.Pilot.CFormatForgeLaw_law_r3003_2a6900.mth
  split
  all_goals first | exact IsL.none | exact IsL.ite (IsL.inl _) IsL.none
theorem IsL.oin : IsL (oin pc lc st h) := by
  unfold Jvm.Pilot.CFormatForgeLaw_law_r3003_2a6900.oin
  repeat' split
  all_goals first | exact IsL.none | exact IsL.inl _
/-- the instructions that end a method, make an exception, or call -/
def spc (i : Instr) : Bool := match i with | .new _ => true | .invokestatic _ => true | .invokespecial _ => true | .invokevirtual _ => true | .ireturn => true | .lreturn => true | .dreturn => true | .areturn => true | .return_ => true | _ => false
theorem stA_l (hi : spc i = false) : IsL (stA m i n pc lc st h) := by
  have fb : IsL (match pS i n pc lc st with | some (pc', l', st') => some (.inl (pc', l', st', h)) | none => Option.none) := by
    split
    · exact IsL.inl _
    · exact IsL.none
  cases i
  case new => cases hi
  case invokestatic => cases hi
  case invokespecial => cases hi
  case invokevirtual => cases hi
  case ireturn => cases hi
  case lreturn => cases hi
  case dreturn => cases hi
  case areturn => cases hi
  case return_ => cases hi
  case getfield => exact IsL.ite IsL.gF IsL.none
  case putfield => exact IsL.ite IsL.pF IsL.none
  case iaload => exact IsL.ite IsL.aLd IsL.none
  case baload => exact IsL.ite IsL.aLd IsL.none
  case laload => exact IsL.ite IsL.aLd IsL.none
  case daload => exact IsL.ite IsL.aLd IsL.none
  case aaload => exact IsL.ite IsL.aLd IsL.none
  case iastore => exact IsL.ite IsL.aSt IsL.none
  case bastore => exact IsL.ite IsL.aSt IsL.none
  case lastore => exact IsL.ite IsL.aSt IsL.none
  case dastore => exact IsL.ite IsL.aSt IsL.none
  case aastore => exact IsL.ite IsL.aSt IsL.none
  case arraylength =>
    refine IsL.ite ?_ IsL.none
    split
    · exact IsL.ite (IsL.inl _) IsL.none
    · exact IsL.none
  case newarray =>
    refine IsL.ite ?_ IsL.none
    split
    · exact IsL.nwA
    · exact IsL.none
  case anewarray => exact IsL.ite IsL.nwA IsL.none
  case ldc2_w =>
    refine IsL.ite ?_ IsL.none
    split
    · exact IsL.inl _
    · exact IsL.none
  case dadd =>
    refine IsL.ite ?_ IsL.none
    split
    · exact IsL.ite (IsL.inl _) IsL.none
    · exact IsL.none
  case dmul =>
    refine IsL.ite ?_ IsL.none
    split
    · exact IsL.ite (IsL.inl _) IsL.none
    · exact IsL.none
  case idiv =>
    refine IsL.ite ?_ IsL.none
    split
    · exact IsL.ite (IsL.inl _) IsL.none
    · exact IsL.none
  case irem =>
    refine IsL.ite ?_ IsL.none
    split
    · exact IsL.ite (IsL.inl _) IsL.none
    · exact IsL.none
  case ldiv =>
    refine IsL.ite ?_ IsL.none
    split
    · exact IsL.ite (IsL.inl _) IsL.none
    · exact IsL.none
  all_goals exact fb
theorem rA_no {v : Value} {Y : Nat × Lc × List Value × Hp} (h0 : retA m v h = some (.inl Y)) : False := by
  unfold retA at h0
  split at h0 <;> cases h0
theorem iteS {P : Prop} [Decidable P] {α : Type} {a : Option α} {b : α} (h : (if P then a else none) = some b) : P ∧ a = some b := by
  split at h
  · rename_i hp; exact ⟨hp, h⟩
  · cases h
/-- a step that goes on -/
theorem st_l (G : Gd l w) (C : Cx w p e R s mid meth c m d hs) (r : Rel w h H) (hlo : ∀ q ∈ locs, bas w ≤ q.base) (hL : LR w (mL m) lc ls) (hd : decode (mB m) pc = .ok (i, n)) (h0 : stA m i n pc lc st h = some (.inl (X.1, X.2.1, X.2.2, h'))) (K : Kh p l e R s mid args below meth c Q w (mL m) X h') : W p l e R s mid args below meth c H locs cells slots Q (F0 mid pc ls (st.map (cv w))) := by
  have fb : (match pS i n pc lc st with | some (pc', l', st') => some (.inl (pc', l', st', h)) | none => none : Option Ac) = some (.inl (X.1, X.2.1, X.2.2, h')) → W p l e R s mid args below meth c H locs cells slots Q (F0 mid pc ls (st.map (cv w))) := by
    intro h1
    split at h1
    · rename_i pc' l' st' hp
      simp only [Option.some.injEq, Sum.inl.injEq, Prod.mk.injEq] at h1
      obtain ⟨e1, e2, e3, rfl⟩ := h1
      refine pp_all C.x C.b hL (X := X) (fun ls' hL' => K H locs cells slots ls' r hlo hL') hd ?_
      rw [hp]
      obtain ⟨x1, x2, x3⟩ := X
      dsimp only at e1 e2 e3
      rw [e1, e2, e3]
    · cases h1
  have K1 : ∀ (pc' : Nat) (st' : List Value), X = (pc', lc, st') → h' = h → W p l e R s mid args below meth c H locs cells slots Q (F0 mid pc' ls (st'.map (cv w))) := by
    rintro pc' st' rfl rfl
    exact K H locs cells slots ls r hlo hL
  have eX : ∀ (pc' : Nat) (l' : Lc) (st' : List Value) (h2 : Hp), (some (.inl (pc', l', st', h2)) : Option Ac) = some (.inl (X.1, X.2.1, X.2.2, h')) → X = (pc', l', st') ∧ h' = h2 := by
    intro pc' l' st' h2 q
    simp only [Option.some.injEq, Sum.inl.injEq, Prod.mk.injEq] at q
    obtain ⟨q1, q2, q3, q4⟩ := q
    exact ⟨Prod.ext q1.symm (Prod.ext q2.symm q3.symm), q4.symm⟩
  cases i
  case getfield => obtain ⟨rfl, hz⟩ := iteS h0; replace h0 := hz; clear hz; exact hh_get G C r hlo hL hd h0 K
  case putfield => obtain ⟨rfl, hz⟩ := iteS h0; replace h0 := hz; clear hz; exact hh_put G C r hlo hL hd h0 K
  case iaload => obtain ⟨rfl, hz⟩ := iteS h0; replace h0 := hz; clear hz; exact hh_ald G C r hlo hL h0 K (fun a i rest => hr_iald G C r hd a i rest)
  case baload => obtain ⟨rfl, hz⟩ := iteS h0; replace h0 := hz; clear hz; exact hh_ald G C r hlo hL h0 K (fun a i rest => hr_bald G C r hd a i rest)
  case laload => obtain ⟨rfl, hz⟩ := iteS h0; replace h0 := hz; clear hz; exact hh_ald G C r hlo hL h0 K (fun a i rest => hr_lald G C r hd a i rest)
  case daload => obtain ⟨rfl, hz⟩ := iteS h0; replace h0 := hz; clear hz; exact hh_ald G C r hlo hL h0 K (fun a i rest => hr_dald G C r hd a i rest)
  case aaload => obtain ⟨rfl, hz⟩ := iteS h0; replace h0 := hz; clear hz; exact hh_ald G C r hlo hL h0 K (fun a i rest => hr_aald G C r hd a i rest)
  case iastore => obtain ⟨rfl, hz⟩ := iteS h0; replace h0 := hz; clear hz; exact hh_ast G C r hlo hL h0 K (by decide) (fun a i v rest => hr_iast G C r hd a i v rest)
  case bastore => obtain ⟨rfl, hz⟩ := iteS h0; replace h0 := hz; clear hz; exact hh_ast G C r hlo hL h0 K (by decide) (fun a i v rest => hr_bast G C r hd a i v rest)
  case lastore => obtain ⟨rfl, hz⟩ := iteS h0; replace h0 := hz; clear hz; exact hh_ast G C r hlo hL h0 K (by decide) (fun a i v rest => hr_last G C r hd a i v rest)
  case dastore => obtain ⟨rfl, hz⟩ := iteS h0; replace h0 := hz; clear hz; exact hh_ast G C r hlo hL h0 K (by decide) (fun a i v rest => hr_dast G C r hd a i v rest)
  case aastore => obtain ⟨rfl, hz⟩ := iteS h0; replace h0 := hz; clear hz; exact hh_ast G C r hlo hL h0 K (by decide) (fun a i v rest => hr_aast G C r hd a i v rest)
  case arraylength =>
    obtain ⟨rfl, hz⟩ := iteS h0; replace h0 := hz; clear hz
    split at h0
    · obtain ⟨hk, h0⟩ := iteS h0
      obtain ⟨e1, e2⟩ := eX _ _ _ _ h0
      exact hh_alen G C r hd hk (K1 _ _ e1 e2)
    · cases h0
  case new =>
    obtain ⟨rfl, hz⟩ := iteS h0; replace h0 := hz; clear hz
    split at h0
    · rename_i c0 sz hcl
      split at h0
      · obtain ⟨-, h0⟩ := iteS h0
        cases h0
      · rename_i h9
        obtain ⟨hr, h0⟩ := iteS h0
        obtain ⟨rfl, rfl⟩ := eX _ _ _ _ h0
        exact hh_new G C r hlo hcl (by omega) hr hd (fun H' cells' slots' r' => K H' locs cells' slots' ls r' hlo hL)
    · cases h0
  case newarray =>
    obtain ⟨rfl, hz⟩ := iteS h0; replace h0 := hz; clear hz
    split at h0
    · rename_i k hk
      exact hh_newa G C r hlo hL hk hd h0 K
    · cases h0
  case anewarray => obtain ⟨⟨rfl, hcl⟩, hz⟩ := iteS h0; replace h0 := hz; clear hz; exact hh_anew G C r hlo hL hcl hd h0 K
  case invokestatic =>
    obtain ⟨rfl, hz⟩ := iteS h0; replace h0 := hz; clear hz
    unfold cS at h0
    split at h0
    · rename_i kind n ts hcal
      split at h0
      · split at h0
        · obtain ⟨-, h0⟩ := iteS h0; cases h0
        · cases h0
      · exact hh_copy G C r hlo hL (sites_ok hcal) hd h0 K
      · exact hh_mth G C r hlo hL hcal hd h0 K
    · cases h0
  case invokespecial =>
    obtain ⟨rfl, hz⟩ := iteS h0; replace h0 := hz; clear hz
    unfold cI_ at h0
    split at h0
    · rename_i kind n ts hcal
      split at h0
      · split at h0
        · split at h0
          · obtain ⟨-, h0⟩ := iteS h0; cases h0
          · cases h0
        · cases h0
      · exact hh_oin G C r hlo hL (sites_ok hcal) hd h0 K
      · cases h0
    · cases h0
  case invokevirtual =>
    obtain ⟨rfl, hz⟩ := iteS h0; replace h0 := hz; clear hz
    unfold cV at h0
    split at h0
    · obtain ⟨-, h0⟩ := iteS h0
      split at h0
      · split at h0
        · obtain ⟨-, h0⟩ := iteS h0; cases h0
        · cases h0
      · cases h0
    · cases h0
  case ldc2_w =>
    obtain ⟨rfl, hz⟩ := iteS h0; replace h0 := hz; clear hz
    split at h0
    · rename_i v hv
      obtain ⟨e1, e2⟩ := eX _ _ _ _ h0
      exact hh_cst G C hv hd (K1 _ _ e1 e2)
    · cases h0
  case ireturn =>
    obtain ⟨rfl, hz⟩ := iteS h0; replace h0 := hz; clear hz
    split at h0
    · exact (rA_no h0).elim
    · cases h0
  case lreturn =>
    obtain ⟨rfl, hz⟩ := iteS h0; replace h0 := hz; clear hz
    split at h0
    · exact (rA_no h0).elim
    · cases h0
  case dreturn =>
    obtain ⟨rfl, hz⟩ := iteS h0; replace h0 := hz; clear hz
    split at h0
    · exact (rA_no h0).elim
    · cases h0
  case areturn =>
    obtain ⟨rfl, hz⟩ := iteS h0; replace h0 := hz; clear hz
    split at h0
    · exact (rA_no h0).elim
    · cases h0
  case return_ =>
    obtain ⟨-, h0⟩ := iteS h0
    split at h0 <;> cases h0
  case dadd =>
    obtain ⟨rfl, hz⟩ := iteS h0; replace h0 := hz; clear hz
    split at h0
    · obtain ⟨hne, h0⟩ := iteS h0
      obtain ⟨e1, e2⟩ := eX _ _ _ _ h0
      exact lv_dadd C.x C.b hd hne (K1 _ _ e1 e2)
    · cases h0
  case dmul =>
    obtain ⟨rfl, hz⟩ := iteS h0; replace h0 := hz; clear hz
    split at h0
    · obtain ⟨hne, h0⟩ := iteS h0
      obtain ⟨e1, e2⟩ := eX _ _ _ _ h0
      exact lv_dmul C.x C.b hd hne (K1 _ _ e1 e2)
    · cases h0
  case idiv =>
    obtain ⟨rfl, hz⟩ := iteS h0; replace h0 := hz; clear hz
    split at h0
    · obtain ⟨hne, h0⟩ := iteS h0
      obtain ⟨e1, e2⟩ := eX _ _ _ _ h0
      exact lv_idiv C.x C.b hd hne (K1 _ _ e1 e2)
    · cases h0
  case irem =>
    obtain ⟨rfl, hz⟩ := iteS h0; replace h0 := hz; clear hz
    split at h0
    · obtain ⟨hne, h0⟩ := iteS h0
      obtain ⟨e1, e2⟩ := eX _ _ _ _ h0
      exact lv_irem C.x C.b hd hne (K1 _ _ e1 e2)
    · cases h0
  case ldiv =>
    obtain ⟨rfl, hz⟩ := iteS h0; replace h0 := hz; clear hz
    split at h0
    · obtain ⟨hne, h0⟩ := iteS h0
      obtain ⟨e1, e2⟩ := eX _ _ _ _ h0
      exact lv_ldiv C.x C.b hd hne (K1 _ _ e1 e2)
    · cases h0
  all_goals exact fb h0
/-- a step that ends the method -/
theorem st_r (G : Gd l w) (C : Cx w p e R s mid meth c m d hs) (r : Rel w h H) (hlo : ∀ q ∈ locs, bas w ≤ q.base) (hL : LR w (mL m) lc ls) (hd : decode (mB m) pc = .ok (i, n)) (h0 : stA m i n pc lc st h = some (.inr (.inl (rr, h')))) : W p l e R s mid args below meth c H locs cells slots (Fin w below s rr h' (capN - hN hs) (capU - hU hs)) (F0 mid pc ls (st.map (cv w))) := by
  by_cases hi : spc i = false
  · obtain ⟨Y, hY⟩ := stA_l hi _ h0
    cases hY
  cases i
  case new =>
    obtain ⟨rfl, hz⟩ := iteS h0; replace h0 := hz; clear hz
    split at h0
    · rename_i c0 sz hcl
      split at h0
      · rename_i h9
        obtain ⟨⟨ht, hr, hlen⟩, h0⟩ := iteS h0
        simp only [Option.some.injEq, Sum.inr.injEq, Sum.inl.injEq, Prod.mk.injEq] at h0
        obtain ⟨rfl, rfl⟩ := h0
        exact hh_thr G C r hlo hL hcl h9 ht hr hlen hd
      · obtain ⟨-, h0⟩ := iteS h0; cases h0
    · cases h0
  case invokestatic =>
    obtain ⟨rfl, hz⟩ := iteS h0; replace h0 := hz; clear hz
    unfold cS at h0
    split at h0
    · split at h0
      · split at h0
        · obtain ⟨-, h0⟩ := iteS h0; cases h0
        · cases h0
      · obtain ⟨Y, hY⟩ := IsL.cpA _ h0; cases hY
      · obtain ⟨Y, hY⟩ := IsL.mth _ h0; cases hY
    · cases h0
  case invokespecial =>
    obtain ⟨rfl, hz⟩ := iteS h0; replace h0 := hz; clear hz
    unfold cI_ at h0
    split at h0
    · split at h0
      · split at h0
        · split at h0
          · obtain ⟨-, h0⟩ := iteS h0; cases h0
          · cases h0
        · cases h0
      · obtain ⟨Y, hY⟩ := IsL.oin _ h0; cases hY
      · cases h0
    · cases h0
  case invokevirtual =>
    obtain ⟨rfl, hz⟩ := iteS h0; replace h0 := hz; clear hz
    unfold cV at h0
    split at h0
    · obtain ⟨-, h0⟩ := iteS h0
      split at h0
      · split at h0
        · obtain ⟨-, h0⟩ := iteS h0; cases h0
        · cases h0
      · cases h0
    · cases h0
  case ireturn =>
    obtain ⟨rfl, hz⟩ := iteS h0; replace h0 := hz; clear hz
    split at h0
    · exact fin_int C r hlo hd h0
    · cases h0
  case lreturn =>
    obtain ⟨rfl, hz⟩ := iteS h0; replace h0 := hz; clear hz
    split at h0
    · exact fin_long C r hlo hd h0
    · cases h0
  case dreturn =>
    obtain ⟨rfl, hz⟩ := iteS h0; replace h0 := hz; clear hz
    split at h0
    · exact fin_double C r hlo hd h0
    · cases h0
  case areturn =>
    obtain ⟨rfl, hz⟩ := iteS h0; replace h0 := hz; clear hz
    split at h0
    · exact fin_ref C r hlo hd h0
    · cases h0
  case return_ =>
    obtain ⟨⟨rfl, hm⟩, hz⟩ := iteS h0; replace h0 := hz; clear hz
    split at h0
    · simp only [Option.some.injEq, Sum.inr.injEq, Sum.inl.injEq, Prod.mk.injEq] at h0
      obtain ⟨rfl, rfl⟩ := h0
      exact fin_void C r hlo hd hm
    · cases h0
  all_goals exact absurd rfl hi
/-- a step that calls -/
theorem st_c (G : Gd l w) (C : Cx w p e R s mid meth c m d hs) (r : Rel w h H) (hd : decode (mB m) pc = .ok (i, n)) {tf : Bool} (h0 : stA m i n pc lc st h = some (.inr (.inr (m', as, rs, tf)))) : (decode (mB m) pc = .ok (i, 3) ∧ mOK m' ∧ (as.map Value.category).sum ≤ mL m' ∧ rs.length ≤ 16) ∧
    ∃ mk, s.methodNamed? (mY m') = some mk ∧ Site p l e R s mid args below meth c H pc ls (st.map (cv w)) (rs.map (cv w)) mk (as.map (cv w)).toArray := by
  by_cases hi : spc i = false
  · obtain ⟨Y, hY⟩ := stA_l hi _ h0
    cases hY
  cases i
  case new =>
    obtain ⟨rfl, hz⟩ := iteS h0; replace h0 := hz; clear hz
    split at h0
    · split at h0
      · obtain ⟨-, h0⟩ := iteS h0; cases h0
      · obtain ⟨-, h0⟩ := iteS h0; cases h0
    · cases h0
  case invokestatic =>
    obtain ⟨rfl, hz⟩ := iteS h0; replace h0 := hz; clear hz
    unfold cS at h0
    split at h0
    · rename_i kind n ts hcal
      split at h0
      · split at h0
        · rename_i as0 r0 x0 m0
          obtain ⟨⟨h1, h2⟩, h0⟩ := iteS h0
          simp only [Option.some.injEq, Sum.inr.injEq, Prod.mk.injEq] at h0
          obtain ⟨rfl, rfl, rfl, -⟩ := h0
          have hok := sites_ok hcal (_, _) (List.mem_singleton.mpr rfl)
          exact ⟨⟨hd, hok.2.2.2, h2, h1⟩, site_static G C hd hok (by assumption)⟩
        · cases h0
      · obtain ⟨Y, hY⟩ := IsL.cpA _ h0; cases hY
      · obtain ⟨Y, hY⟩ := IsL.mth _ h0; cases hY
    · cases h0
  case invokespecial =>
    obtain ⟨rfl, hz⟩ := iteS h0; replace h0 := hz; clear hz
    unfold cI_ at h0
    split at h0
    · rename_i kind n ts hcal
      split at h0
      · split at h0
        · rename_i as' r' ha
          split at h0
          · rename_i m2 hrcv
            obtain ⟨⟨h1, h2⟩, h0⟩ := iteS h0
            simp only [Option.some.injEq, Sum.inr.injEq, Prod.mk.injEq] at h0
            obtain ⟨rfl, rfl, rfl, -⟩ := h0
            obtain ⟨a, t, rc, e1, hmem, hrc⟩ := rcv_sp hrcv
            have hok := sites_ok hcal _ hmem
            exact ⟨⟨hd, hok.2.2.2.2, h2, h1⟩, site_init G C r hd hok ha hrcv (init_lt hcal)⟩
          · cases h0
        · cases h0
      · obtain ⟨Y, hY⟩ := IsL.oin _ h0; cases hY
      · cases h0
    · cases h0
  case invokevirtual =>
    obtain ⟨rfl, hz⟩ := iteS h0; replace h0 := hz; clear hz
    unfold cV at h0
    split at h0
    · rename_i kind n ts hcal
      obtain ⟨hkd, h0⟩ := iteS h0
      split at h0
      · rename_i as' r' ha
        split at h0
        · rename_i m2 hrcv
          obtain ⟨⟨h1, h2⟩, h0⟩ := iteS h0
          simp only [Option.some.injEq, Sum.inr.injEq, Prod.mk.injEq] at h0
          obtain ⟨rfl, rfl, rfl, -⟩ := h0
          obtain ⟨a, t, rc, e1, hmem, hrc⟩ := rcv_sp hrcv
          rcases hkd with rfl | rfl
          · have hok := sites_ok hcal _ hmem
            exact ⟨⟨hd, hok.2.2.2.2.2, h2, h1⟩, site_virt G C r hd hok ha e1 hrc⟩
          · have hok := sites_ok hcal _ hmem
            have hok2 : okS5 (mC m) _ n m2 rc := hok
            refine ⟨⟨hd, ?_, h2, h1⟩, site_up G C r hd hok2 ha e1 hrc⟩
            obtain ⟨x, o, -, -, -, -, -, -, -, q⟩ := hok2
            exact q
        · cases h0
      · cases h0
    · cases h0
  case ireturn =>
    obtain ⟨rfl, hz⟩ := iteS h0; replace h0 := hz; clear hz
    split at h0
    · unfold retA at h0; split at h0 <;> cases h0
    · cases h0
  case lreturn =>
    obtain ⟨rfl, hz⟩ := iteS h0; replace h0 := hz; clear hz
    split at h0
    · unfold retA at h0; split at h0 <;> cases h0
    · cases h0
  case dreturn =>
    obtain ⟨rfl, hz⟩ := iteS h0; replace h0 := hz; clear hz
    split at h0
    · unfold retA at h0; split at h0 <;> cases h0
    · cases h0
  case areturn =>
    obtain ⟨rfl, hz⟩ := iteS h0; replace h0 := hz; clear hz
    split at h0
    · unfold retA at h0; split at h0 <;> cases h0
    · cases h0
  case return_ =>
    obtain ⟨⟨rfl, hm⟩, hz⟩ := iteS h0; replace h0 := hz; clear hz
    split at h0 <;> cases h0
  all_goals exact absurd rfl hi
end STEP
/-- **my interpreter's word is the machine's** -/
theorem ev_sound {l : Launch} {w : Wd} (G : Gd l w) : ∀ (f d : Nat) (m : Mr) (pc : Nat) (lc : Lc) (st : List Value) (h : Hp) (r : Rs) (h' : Hp), ev f d m pc lc st h = some (r, h') → Snd l w d m pc lc st h r h'
  | 0, _, _, _, _, _, _, _, _, hev => by unfold ev at hev; cases hev
  | f + 1, d, m, pc, lc, st, h, r, h', hev => by
    intro p e R s mid args below meth c hs H locs cells slots ls hOK C hr hlo hL
    rw [ev] at hev
    split at hev
    · cases hev
    · rename_i i n hd
      split at hev
      · cases hev
      · rename_i pc' l' st' h2 h0
        exact st_l (X := (pc', l', st')) G C hr hlo hL hd h0 (fun H' locs' cells' slots' ls' r' hlo' hL' => ev_sound G f d m pc' l' st' h2 r h' hev p e R s mid args below meth c hs H' locs' cells' slots' ls' hOK C r' hlo' hL')
      · rename_i q h0
        obtain ⟨q1, q2⟩ := q
        simp only [Option.some.injEq, Prod.mk.injEq] at hev
        obtain ⟨rfl, rfl⟩ := hev
        exact st_r G C hr hlo hL hd h0
      · rename_i m' as rs tf h0
        split at hev
        · cases hev
        · rename_i d'
          obtain ⟨⟨hd3, hok, hf, hrs⟩, mk, hn, hS⟩ := st_c (l := l) (args := args) (below := below) (ls := ls) G C hr hd h0
          split at hev
          · cases hev
          · rename_i v h2 hcal
            exact hh_ret G C hr hlo hL hok hn hf hrs hd3 (ev_sound G f d' m' 0 _ _ h _ h2 hcal) hS (fun H' locs' cells' slots' ls' r' hlo' hL' => ev_sound G f (d' + 1) m _ _ _ h2 r h' hev p e R s mid args below meth c hs H' locs' cells' slots' ls' hOK C r' hlo' hL')
          · rename_i x h2 hcal
            have IH := ev_sound G f d' m' 0 _ _ h _ h2 hcal
            split at hev
            · split at hev
              · rename_i q hq
                exact hh_caught G hOK C hr hlo hL hok hn hf hrs hd3 IH hq hS (fun H' locs' cells' slots' ls' r' hlo' hL' => ev_sound G f (d' + 1) m _ _ _ h2 r h' hev p e R s mid args below meth c hs H' locs' cells' slots' ls' hOK C r' hlo' hL')
              · split at hev
                · rename_i hemp
                  simp only [Option.some.injEq, Prod.mk.injEq] at hev
                  obtain ⟨rfl, rfl⟩ := hev
                  exact hh_out G C hr hlo hL hok hn hf hrs hd3 IH (by simpa using hemp) hS
                · cases hev
            · cases hev
