theorem w_By_init {d : Nat} {K : Hp → Prop} {x0 : Nat} {x1 : Int32} {h0 : Hp} (hq :
  (2 ≤ x0 ∧ ((¬ x1 < 0 ∧ x1.toNatClampNeg ≤ 100000 ∧ room h0 x1.toNatClampNeg = true) ∧ (∀ a3 : Nat, a3 = hN h0 → (∀ h4 : Hp, h4 = hNew h0 22 x1.toNatClampNeg x1.toNatClampNeg → ((hS h4 x0).1 = 0 ∧ (∀ h7 : Hp, h7 = sR h4 x0 0 a3 → (∀ h8 : Hp, h8 = sI h7 x0 1 (0 : Int32) → K h8)))))))) : Ca d m_By_init [.ref x0, .int x1] h0 (QV K) := by
  show Wp _ _ 0 [some (.ref x0), some (.int x1)] [] h0 _
  refine V.aload_n d_By_init_0 rfl ?_
  obtain ⟨g1, hq⟩ := hq
  refine V.objInit d_By_init_1 rfl g1 (leb rfl) ?_
  refine V.aload_n d_By_init_4 rfl ?_
  refine V.iload_n d_By_init_5 rfl ?_
  obtain ⟨g2, hq⟩ := hq
  refine V.newa d_By_init_6 rfl g2 ?_
  replace hq := hq _ rfl
  replace hq := hq _ rfl
  obtain ⟨g6, hq⟩ := hq
  refine V.put2 d_By_init_8 rfl (Or.inr rfl) (List.mem_singleton.mpr g6) ?_
  replace hq := hq _ rfl
  refine V.aload_n d_By_init_11 rfl ?_
  refine V.iconst (x := 0) d_By_init_12 (by decide) ?_
  refine V.put0 d_By_init_13 rfl (Or.inl rfl) (List.mem_singleton.mpr g6) ?_
  replace hq := hq _ rfl
  refine V.vret d_By_init_16 rfl ?_
  exact V.rV hq
theorem w_By_hasRoomFor {d : Nat} {K : Int32 → Hp → Prop} {x0 : Nat} {x1 : Int32} {h0 : Hp} (hq :
  ((hS h0 x0).1 = 0 ∧ (isArr (hS h0 (hR h0 x0 0)).1 = true ∧ (if ((Int32.ofNat (hS h0 (hR h0 x0 0)).2) - (hI h0 x0 1)) < x1 then K (0 : Int32) h0 else K (1 : Int32) h0)))) : Ca d m_By_hasRoomFor [.ref x0, .int x1] h0 (QI K) := by
  show Wp _ _ 0 [some (.ref x0), some (.int x1)] [] h0 _
  refine V.iload_n d_By_hasRoomFor_0 rfl ?_
  refine V.aload_n d_By_hasRoomFor_1 rfl ?_
  obtain ⟨g1, hq⟩ := hq
  refine V.get2 d_By_hasRoomFor_2 rfl (List.mem_singleton.mpr g1) ?_
  obtain ⟨g2, hq⟩ := hq
  refine V.alen d_By_hasRoomFor_5 g2 ?_
  refine V.aload_n d_By_hasRoomFor_6 rfl ?_
  refine V.get0 d_By_hasRoomFor_7 rfl (List.mem_singleton.mpr g1) ?_
  refine V.isub d_By_hasRoomFor_10 ?_
  refine V.ic_gt (t := 18) d_By_hasRoomFor_11 ⟨rfl, rfl⟩ (fun hc => ?_) (fun hc => ?_)
  · replace hq := ifp hc hq
    refine V.iconst (x := 0) d_By_hasRoomFor_18 (by decide) ?_
    refine V.zret (y := (0 : Int32)) d_By_hasRoomFor_19 rfl (by decide) ?_
    exact V.rI hq
  · replace hq := ifn hc hq
    refine V.iconst (x := 1) d_By_hasRoomFor_14 (by decide) ?_
    refine V.goto (t := 19) d_By_hasRoomFor_15 ⟨rfl, rfl⟩ ?_
    refine V.zret (y := (1 : Int32)) d_By_hasRoomFor_19 rfl (by decide) ?_
    exact V.rI hq
theorem w_By_at {d : Nat} {K : Int32 → Hp → Prop} {x0 : Nat} {x1 : Int32} {h0 : Hp} (hq :
  (if x1 < 0 then K (0 : Int32) h0 else ((hS h0 x0).1 = 0 ∧ (if x1 < (hI h0 x0 1) then ((hS h0 (hR h0 x0 0)).1 = 22 ∧ (ainr x1 (hS h0 (hR h0 x0 0)).2 = true ∧ K ((hI h0 (hR h0 x0 0) x1.toNatClampNeg) &&& (255 : Int32)) h0)) else K (0 : Int32) h0)))) : Ca d m_By_at [.ref x0, .int x1] h0 (QI K) := by
  show Wp _ _ 0 [some (.ref x0), some (.int x1)] [] h0 _
  refine V.iload_n d_By_at_0 rfl ?_
  refine V.if_lt (t := 25) d_By_at_1 ⟨rfl, rfl⟩ (fun hc => ?_) (fun hc => ?_)
  · replace hq := ifp hc hq
    refine V.iconst (x := 0) d_By_at_25 (by decide) ?_
    refine V.iret d_By_at_26 rfl ?_
    exact V.rI hq
  · replace hq := ifn hc hq
    refine V.iload_n d_By_at_4 rfl ?_
    refine V.aload_n d_By_at_5 rfl ?_
    obtain ⟨g1, hq⟩ := hq
    refine V.get0 d_By_at_6 rfl (List.mem_singleton.mpr g1) ?_
    refine V.ic_ge (t := 25) d_By_at_9 ⟨rfl, rfl⟩ (fun hc => ?_) (fun hc => ?_)
    · replace hq := ifp hc hq
      refine V.aload_n d_By_at_12 rfl ?_
      refine V.get2 d_By_at_13 rfl (List.mem_singleton.mpr g1) ?_
      refine V.iload_n d_By_at_16 rfl ?_
      obtain ⟨g2, hq⟩ := hq
      obtain ⟨g3, hq⟩ := hq
      refine V.baload d_By_at_17 g2 g3 ?_
      refine V.sipush (x := 255) d_By_at_18 (by decide) ?_
      refine V.iand d_By_at_21 ?_
      refine V.goto (t := 26) d_By_at_22 ⟨rfl, rfl⟩ ?_
      refine V.iret d_By_at_26 rfl ?_
      exact V.rI hq
    · replace hq := ifn hc hq
      refine V.iconst (x := 0) d_By_at_25 (by decide) ?_
      refine V.iret d_By_at_26 rfl ?_
      exact V.rI hq
theorem w_By_append {d : Nat} {K : Int32 → Hp → Prop} {x0 : Nat} {x1 : Int32} {h0 : Hp} (hq :
  ((hS h0 x0).1 = 0 ∧ (isArr (hS h0 (hR h0 x0 0)).1 = true ∧ (if (hI h0 x0 1) < (Int32.ofNat (hS h0 (hR h0 x0 0)).2) then ((hS h0 (hR h0 x0 0)).1 = 22 ∧ (¬ (hR h0 x0 0) = 1 ∧ (ainr (hI h0 x0 1) (hS h0 (hR h0 x0 0)).2 = true ∧ (∀ h6 : Hp, h6 = sI h0 (hR h0 x0 0) (hI h0 x0 1).toNatClampNeg ((x1.toInt8.toInt32).toInt8.toInt32) → (∀ h7 : Hp, h7 = sI h6 x0 1 ((hI h6 x0 1) + (1 : Int32)) → K (1 : Int32) h7))))) else K (0 : Int32) h0)))) : Ca d m_By_append [.ref x0, .int x1] h0 (QI K) := by
  show Wp _ _ 0 [some (.ref x0), some (.int x1)] [] h0 _
  refine V.aload_n d_By_append_0 rfl ?_
  obtain ⟨g1, hq⟩ := hq
  refine V.get0 d_By_append_1 rfl (List.mem_singleton.mpr g1) ?_
  refine V.aload_n d_By_append_4 rfl ?_
  refine V.get2 d_By_append_5 rfl (List.mem_singleton.mpr g1) ?_
  obtain ⟨g2, hq⟩ := hq
  refine V.alen d_By_append_8 g2 ?_
  refine V.ic_lt (t := 14) d_By_append_9 ⟨rfl, rfl⟩ (fun hc => ?_) (fun hc => ?_)
  · replace hq := ifp hc hq
    refine V.aload_n d_By_append_14 rfl ?_
    refine V.get2 d_By_append_15 rfl (List.mem_singleton.mpr g1) ?_
    refine V.aload_n d_By_append_18 rfl ?_
    refine V.get0 d_By_append_19 rfl (List.mem_singleton.mpr g1) ?_
    refine V.iload_n d_By_append_22 rfl ?_
    refine V.i2b d_By_append_23 ?_
    obtain ⟨g3, hq⟩ := hq
    obtain ⟨g4, hq⟩ := hq
    obtain ⟨g5, hq⟩ := hq
    refine V.bastore d_By_append_24 g3 g4 g5 ?_
    replace hq := hq _ rfl
    refine V.aload_n d_By_append_25 rfl ?_
    refine V.dupR d_By_append_26 ?_
    refine V.get0 d_By_append_27 rfl (List.mem_singleton.mpr g1) ?_
    refine V.iconst (x := 1) d_By_append_30 (by decide) ?_
    refine V.iadd d_By_append_31 ?_
    refine V.put0 d_By_append_32 rfl (Or.inl rfl) (List.mem_singleton.mpr g1) ?_
    replace hq := hq _ rfl
    refine V.iconst (x := 1) d_By_append_35 (by decide) ?_
    refine V.zret (y := (1 : Int32)) d_By_append_36 rfl (by decide) ?_
    exact V.rI hq
  · replace hq := ifn hc hq
    refine V.iconst (x := 0) d_By_append_12 (by decide) ?_
    refine V.zret (y := (0 : Int32)) d_By_append_13 rfl (by decide) ?_
    exact V.rI hq
theorem w_By_markInLast {d : Nat} {K : Hp → Prop} {x0 : Nat} {x1 : Int32} {h0 : Hp} (hq :
  ((hS h0 x0).1 = 0 ∧ (if 0 < (hI h0 x0 1) then ((hS h0 (hR h0 x0 0)).1 = 22 ∧ (ainr ((hI h0 x0 1) - (1 : Int32)) (hS h0 (hR h0 x0 0)).2 = true ∧ (¬ (hR h0 x0 0) = 1 ∧ (∀ h5 : Hp, h5 = sI h0 (hR h0 x0 0) ((hI h0 x0 1) - (1 : Int32)).toNatClampNeg ((((hI h0 (hR h0 x0 0) ((hI h0 x0 1) - (1 : Int32)).toNatClampNeg) ||| x1).toInt8.toInt32).toInt8.toInt32) → K h5)))) else K h0))) : Ca d m_By_markInLast [.ref x0, .int x1] h0 (QV K) := by
  show Wp _ _ 0 [some (.ref x0), some (.int x1)] [] h0 _
  refine V.aload_n d_By_markInLast_0 rfl ?_
  obtain ⟨g1, hq⟩ := hq
  refine V.get0 d_By_markInLast_1 rfl (List.mem_singleton.mpr g1) ?_
  refine V.if_le (t := 32) d_By_markInLast_4 ⟨rfl, rfl⟩ (fun hc => ?_) (fun hc => ?_)
  · replace hq := ifp hc hq
    refine V.aload_n d_By_markInLast_7 rfl ?_
    refine V.get2 d_By_markInLast_8 rfl (List.mem_singleton.mpr g1) ?_
    refine V.aload_n d_By_markInLast_11 rfl ?_
    refine V.get0 d_By_markInLast_12 rfl (List.mem_singleton.mpr g1) ?_
    refine V.iconst (x := 1) d_By_markInLast_15 (by decide) ?_
    refine V.isub d_By_markInLast_16 ?_
    refine V.aload_n d_By_markInLast_17 rfl ?_
    refine V.get2 d_By_markInLast_18 rfl (List.mem_singleton.mpr g1) ?_
    refine V.aload_n d_By_markInLast_21 rfl ?_
    refine V.get0 d_By_markInLast_22 rfl (List.mem_singleton.mpr g1) ?_
    refine V.iconst (x := 1) d_By_markInLast_25 (by decide) ?_
    refine V.isub d_By_markInLast_26 ?_
    obtain ⟨g2, hq⟩ := hq
    obtain ⟨g3, hq⟩ := hq
    refine V.baload d_By_markInLast_27 g2 g3 ?_
    refine V.iload_n d_By_markInLast_28 rfl ?_
    refine V.ior d_By_markInLast_29 ?_
    refine V.i2b d_By_markInLast_30 ?_
    obtain ⟨g4, hq⟩ := hq
    refine V.bastore d_By_markInLast_31 g2 g4 g3 ?_
    replace hq := hq _ rfl
    refine V.vret d_By_markInLast_32 rfl ?_
    exact V.rV hq
  · replace hq := ifn hc hq
    refine V.vret d_By_markInLast_32 rfl ?_
    exact V.rV hq
theorem w_By_shortenTo {d : Nat} {K : Hp → Prop} {x0 : Nat} {x1 : Int32} {h0 : Hp} (hq :
  (if x1 < 0 then K h0 else ((hS h0 x0).1 = 0 ∧ (if x1 < (hI h0 x0 1) then (∀ h2 : Hp, h2 = sI h0 x0 1 x1 → K h2) else K h0)))) : Ca d m_By_shortenTo [.ref x0, .int x1] h0 (QV K) := by
  show Wp _ _ 0 [some (.ref x0), some (.int x1)] [] h0 _
  refine V.iload_n d_By_shortenTo_0 rfl ?_
  refine V.if_lt (t := 17) d_By_shortenTo_1 ⟨rfl, rfl⟩ (fun hc => ?_) (fun hc => ?_)
  · replace hq := ifp hc hq
    refine V.vret d_By_shortenTo_17 rfl ?_
    exact V.rV hq
  · replace hq := ifn hc hq
    refine V.iload_n d_By_shortenTo_4 rfl ?_
    refine V.aload_n d_By_shortenTo_5 rfl ?_
    obtain ⟨g1, hq⟩ := hq
    refine V.get0 d_By_shortenTo_6 rfl (List.mem_singleton.mpr g1) ?_
    refine V.ic_ge (t := 17) d_By_shortenTo_9 ⟨rfl, rfl⟩ (fun hc => ?_) (fun hc => ?_)
    · replace hq := ifp hc hq
      refine V.aload_n d_By_shortenTo_12 rfl ?_
      refine V.iload_n d_By_shortenTo_13 rfl ?_
      refine V.put0 d_By_shortenTo_14 rfl (Or.inl rfl) (List.mem_singleton.mpr g1) ?_
      replace hq := hq _ rfl
      refine V.vret d_By_shortenTo_17 rfl ?_
      exact V.rV hq
    · replace hq := ifn hc hq
      refine V.vret d_By_shortenTo_17 rfl ?_
      exact V.rV hq
theorem w_By_forgetAll {d : Nat} {K : Hp → Prop} {x0 : Nat} {h0 : Hp} (hq :
  ((hS h0 x0).1 = 0 ∧ (∀ h2 : Hp, h2 = sI h0 x0 1 (0 : Int32) → K h2))) : Ca d m_By_forgetAll [.ref x0] h0 (QV K) := by
  show Wp _ _ 0 [some (.ref x0)] [] h0 _
  refine V.aload_n d_By_forgetAll_0 rfl ?_
  refine V.iconst (x := 0) d_By_forgetAll_1 (by decide) ?_
  obtain ⟨g1, hq⟩ := hq
  refine V.put0 d_By_forgetAll_2 rfl (Or.inl rfl) (List.mem_singleton.mpr g1) ?_
  replace hq := hq _ rfl
  refine V.vret d_By_forgetAll_5 rfl ?_
  exact V.rV hq
theorem w_By_becomeLike {d : Nat} {K : Hp → Prop} {x0 : Nat} {x1 : Nat} {h0 : Hp} (hq :
  ((hS h0 x1).1 = 0 ∧ ((hS h0 x0).1 = 0 ∧ (isArr (hS h0 (hR h0 x0 0)).1 = true ∧ (∀ h4 : Hp, h4 = sI h0 x0 1 (if (Int32.ofNat (hS h0 (hR h0 x0 0)).2) < (hI h0 x1 1) then (Int32.ofNat (hS h0 (hR h0 x0 0)).2) else (hI h0 x1 1)) → ((¬ (hI h4 x0 1) < 0 ∧ ¬ (0 : Int32) < 0 ∧ ¬ (0 : Int32) < 0) ∧ ((¬ (hR h4 x1 0) = 1 ∧ ¬ (hR h4 x0 0) = 1) ∧ ((hS h0 (hR h4 x1 0)).1 = 22 ∧ ((hS h0 (hR h4 x0 0)).1 = 22 ∧ (((0 : Int32).toNatClampNeg + (hI h4 x0 1).toNatClampNeg ≤ (hS h0 (hR h4 x1 0)).2 ∧ (0 : Int32).toNatClampNeg + (hI h4 x0 1).toNatClampNeg ≤ (hS h0 (hR h4 x0 0)).2) ∧ (∀ h10 : Hp, h10 = cI h4 (hR h4 x1 0) (0 : Int32).toNatClampNeg (hR h4 x0 0) (0 : Int32).toNatClampNeg (hI h4 x0 1).toNatClampNeg → K h10))))))))))) : Ca d m_By_becomeLike [.ref x0, .ref x1] h0 (QV K) := by
  show Wp _ _ 0 [some (.ref x0), some (.ref x1)] [] h0 _
  refine V.aload_n d_By_becomeLike_0 rfl ?_
  refine V.aload_n d_By_becomeLike_1 rfl ?_
  obtain ⟨g1, hq⟩ := hq
  refine V.get0 d_By_becomeLike_2 rfl (List.mem_singleton.mpr g1) ?_
  refine V.aload_n d_By_becomeLike_5 rfl ?_
  obtain ⟨g2, hq⟩ := hq
  refine V.get2 d_By_becomeLike_6 rfl (List.mem_singleton.mpr g2) ?_
  obtain ⟨g3, hq⟩ := hq
  refine V.alen d_By_becomeLike_9 g3 ?_
  refine V.minI d_By_becomeLike_10 rfl (leb rfl) ?_
  refine V.put0 d_By_becomeLike_13 rfl (Or.inl rfl) (List.mem_singleton.mpr g2) ?_
  replace hq := hq _ rfl
  refine V.aload_n d_By_becomeLike_16 rfl ?_
  refine V.get2 d_By_becomeLike_17 rfl (List.mem_singleton.mpr g1) ?_
  refine V.iconst (x := 0) d_By_becomeLike_20 (by decide) ?_
  refine V.aload_n d_By_becomeLike_21 rfl ?_
  refine V.get2 d_By_becomeLike_22 rfl (List.mem_singleton.mpr g2) ?_
  refine V.iconst (x := 0) d_By_becomeLike_25 (by decide) ?_
  refine V.aload_n d_By_becomeLike_26 rfl ?_
  refine V.get0 d_By_becomeLike_27 rfl (List.mem_singleton.mpr g2) ?_
  obtain ⟨g5, hq⟩ := hq
  obtain ⟨g6, hq⟩ := hq
  obtain ⟨g7, hq⟩ := hq
  obtain ⟨g8, hq⟩ := hq
  obtain ⟨g9, hq⟩ := hq
  refine V.cpyI d_By_becomeLike_30 rfl (leb rfl) g5 g6 g7 g8 g9 ?_
  replace hq := hq _ rfl
  refine V.vret d_By_becomeLike_33 rfl ?_
  exact V.rV hq
theorem w_Lo_init {d : Nat} {K : Hp → Prop} {x0 : Nat} {x1 : Int32} {h0 : Hp} (hq :
  (2 ≤ x0 ∧ ((¬ x1 < 0 ∧ x1.toNatClampNeg ≤ 100000 ∧ room h0 x1.toNatClampNeg = true) ∧ (∀ a3 : Nat, a3 = hN h0 → (∀ h4 : Hp, h4 = hNew h0 21 x1.toNatClampNeg x1.toNatClampNeg → ((hS h4 x0).1 = 1 ∧ (∀ h7 : Hp, h7 = sR h4 x0 0 a3 → (∀ h8 : Hp, h8 = sI h7 x0 1 (0 : Int32) → K h8)))))))) : Ca d m_Lo_init [.ref x0, .int x1] h0 (QV K) := by
  show Wp _ _ 0 [some (.ref x0), some (.int x1)] [] h0 _
  refine V.aload_n d_Lo_init_0 rfl ?_
  obtain ⟨g1, hq⟩ := hq
  refine V.objInit d_Lo_init_1 rfl g1 (leb rfl) ?_
  refine V.aload_n d_Lo_init_4 rfl ?_
  refine V.iload_n d_Lo_init_5 rfl ?_
  obtain ⟨g2, hq⟩ := hq
  refine V.newa d_Lo_init_6 rfl g2 ?_
  replace hq := hq _ rfl
  replace hq := hq _ rfl
  obtain ⟨g6, hq⟩ := hq
  refine V.put2 d_Lo_init_8 rfl (Or.inr rfl) (List.mem_singleton.mpr g6) ?_
  replace hq := hq _ rfl
  refine V.aload_n d_Lo_init_11 rfl ?_
  refine V.iconst (x := 0) d_Lo_init_12 (by decide) ?_
  refine V.put0 d_Lo_init_13 rfl (Or.inl rfl) (List.mem_singleton.mpr g6) ?_
  replace hq := hq _ rfl
  refine V.vret d_Lo_init_16 rfl ?_
  exact V.rV hq
theorem w_Lo_at {d : Nat} {K : Int64 → Hp → Prop} {x0 : Nat} {x1 : Int32} {h0 : Hp} (hq :
  (if x1 < 0 then K (0 : Int64) h0 else ((hS h0 x0).1 = 1 ∧ (if x1 < (hI h0 x0 1) then ((hS h0 (hR h0 x0 0)).1 = 21 ∧ (ainr x1 (hS h0 (hR h0 x0 0)).2 = true ∧ K (hL h0 (hR h0 x0 0) x1.toNatClampNeg) h0)) else K (0 : Int64) h0)))) : Ca d m_Lo_at [.ref x0, .int x1] h0 (QL K) := by
  show Wp _ _ 0 [some (.ref x0), some (.int x1)] [] h0 _
  refine V.iload_n d_Lo_at_0 rfl ?_
  refine V.if_lt (t := 21) d_Lo_at_1 ⟨rfl, rfl⟩ (fun hc => ?_) (fun hc => ?_)
  · replace hq := ifp hc hq
    refine V.lconst (x := 0) d_Lo_at_21 (by decide) ?_
    refine V.lret d_Lo_at_22 rfl ?_
    exact V.rL hq
  · replace hq := ifn hc hq
    refine V.iload_n d_Lo_at_4 rfl ?_
    refine V.aload_n d_Lo_at_5 rfl ?_
    obtain ⟨g1, hq⟩ := hq
    refine V.get0 d_Lo_at_6 rfl (List.mem_singleton.mpr g1) ?_
    refine V.ic_ge (t := 21) d_Lo_at_9 ⟨rfl, rfl⟩ (fun hc => ?_) (fun hc => ?_)
    · replace hq := ifp hc hq
      refine V.aload_n d_Lo_at_12 rfl ?_
      refine V.get2 d_Lo_at_13 rfl (List.mem_singleton.mpr g1) ?_
      refine V.iload_n d_Lo_at_16 rfl ?_
      obtain ⟨g2, hq⟩ := hq
      obtain ⟨g3, hq⟩ := hq
      refine V.laload d_Lo_at_17 g2 g3 ?_
      refine V.goto (t := 22) d_Lo_at_18 ⟨rfl, rfl⟩ ?_
      refine V.lret d_Lo_at_22 rfl ?_
      exact V.rL hq
    · replace hq := ifn hc hq
      refine V.lconst (x := 0) d_Lo_at_21 (by decide) ?_
      refine V.lret d_Lo_at_22 rfl ?_
      exact V.rL hq
theorem w_Lo_append {d : Nat} {K : Int32 → Hp → Prop} {x0 : Nat} {x1 : Int64} {h0 : Hp} (hq :
  ((hS h0 x0).1 = 1 ∧ (isArr (hS h0 (hR h0 x0 0)).1 = true ∧ (if (hI h0 x0 1) < (Int32.ofNat (hS h0 (hR h0 x0 0)).2) then ((hS h0 (hR h0 x0 0)).1 = 21 ∧ (¬ (hR h0 x0 0) = 1 ∧ (ainr (hI h0 x0 1) (hS h0 (hR h0 x0 0)).2 = true ∧ (∀ h6 : Hp, h6 = sL h0 (hR h0 x0 0) (hI h0 x0 1).toNatClampNeg x1 → (∀ h7 : Hp, h7 = sI h6 x0 1 ((hI h6 x0 1) + (1 : Int32)) → K (1 : Int32) h7))))) else K (0 : Int32) h0)))) : Ca d m_Lo_append [.ref x0, .long x1] h0 (QI K) := by
  show Wp _ _ 0 [some (.ref x0), some (.long x1), none] [] h0 _
  refine V.aload_n d_Lo_append_0 rfl ?_
  obtain ⟨g1, hq⟩ := hq
  refine V.get0 d_Lo_append_1 rfl (List.mem_singleton.mpr g1) ?_
  refine V.aload_n d_Lo_append_4 rfl ?_
  refine V.get2 d_Lo_append_5 rfl (List.mem_singleton.mpr g1) ?_
  obtain ⟨g2, hq⟩ := hq
  refine V.alen d_Lo_append_8 g2 ?_
  refine V.ic_lt (t := 14) d_Lo_append_9 ⟨rfl, rfl⟩ (fun hc => ?_) (fun hc => ?_)
  · replace hq := ifp hc hq
    refine V.aload_n d_Lo_append_14 rfl ?_
    refine V.get2 d_Lo_append_15 rfl (List.mem_singleton.mpr g1) ?_
    refine V.aload_n d_Lo_append_18 rfl ?_
    refine V.get0 d_Lo_append_19 rfl (List.mem_singleton.mpr g1) ?_
    refine V.lload_n d_Lo_append_22 rfl ?_
    obtain ⟨g3, hq⟩ := hq
    obtain ⟨g4, hq⟩ := hq
    obtain ⟨g5, hq⟩ := hq
    refine V.lastore d_Lo_append_23 g3 g4 g5 ?_
    replace hq := hq _ rfl
    refine V.aload_n d_Lo_append_24 rfl ?_
    refine V.dupR d_Lo_append_25 ?_
    refine V.get0 d_Lo_append_26 rfl (List.mem_singleton.mpr g1) ?_
    refine V.iconst (x := 1) d_Lo_append_29 (by decide) ?_
    refine V.iadd d_Lo_append_30 ?_
    refine V.put0 d_Lo_append_31 rfl (Or.inl rfl) (List.mem_singleton.mpr g1) ?_
    replace hq := hq _ rfl
    refine V.iconst (x := 1) d_Lo_append_34 (by decide) ?_
    refine V.zret (y := (1 : Int32)) d_Lo_append_35 rfl (by decide) ?_
    exact V.rI hq
  · replace hq := ifn hc hq
    refine V.iconst (x := 0) d_Lo_append_12 (by decide) ?_
    refine V.zret (y := (0 : Int32)) d_Lo_append_13 rfl (by decide) ?_
    exact V.rI hq
theorem w_Lo_replace {d : Nat} {K : Hp → Prop} {x0 : Nat} {x1 : Int32} {x2 : Int64} {h0 : Hp} (hq :
  (if x1 < 0 then K h0 else ((hS h0 x0).1 = 1 ∧ (if x1 < (hI h0 x0 1) then ((hS h0 (hR h0 x0 0)).1 = 21 ∧ (¬ (hR h0 x0 0) = 1 ∧ (ainr x1 (hS h0 (hR h0 x0 0)).2 = true ∧ (∀ h5 : Hp, h5 = sL h0 (hR h0 x0 0) x1.toNatClampNeg x2 → K h5)))) else K h0)))) : Ca d m_Lo_replace [.ref x0, .int x1, .long x2] h0 (QV K) := by
  show Wp _ _ 0 [some (.ref x0), some (.int x1), some (.long x2), none] [] h0 _
  refine V.iload_n d_Lo_replace_0 rfl ?_
  refine V.if_lt (t := 19) d_Lo_replace_1 ⟨rfl, rfl⟩ (fun hc => ?_) (fun hc => ?_)
  · replace hq := ifp hc hq
    refine V.vret d_Lo_replace_19 rfl ?_
    exact V.rV hq
  · replace hq := ifn hc hq
    refine V.iload_n d_Lo_replace_4 rfl ?_
    refine V.aload_n d_Lo_replace_5 rfl ?_
    obtain ⟨g1, hq⟩ := hq
    refine V.get0 d_Lo_replace_6 rfl (List.mem_singleton.mpr g1) ?_
    refine V.ic_ge (t := 19) d_Lo_replace_9 ⟨rfl, rfl⟩ (fun hc => ?_) (fun hc => ?_)
    · replace hq := ifp hc hq
      refine V.aload_n d_Lo_replace_12 rfl ?_
      refine V.get2 d_Lo_replace_13 rfl (List.mem_singleton.mpr g1) ?_
      refine V.iload_n d_Lo_replace_16 rfl ?_
      refine V.lload_n d_Lo_replace_17 rfl ?_
      obtain ⟨g2, hq⟩ := hq
      obtain ⟨g3, hq⟩ := hq
      obtain ⟨g4, hq⟩ := hq
      refine V.lastore d_Lo_replace_18 g2 g3 g4 ?_
      replace hq := hq _ rfl
      refine V.vret d_Lo_replace_19 rfl ?_
      exact V.rV hq
    · replace hq := ifn hc hq
      refine V.vret d_Lo_replace_19 rfl ?_
      exact V.rV hq
theorem w_Lo_takeOut {d : Nat} {K : Hp → Prop} {x0 : Nat} {x1 : Int32} {x2 : Int32} {h0 : Hp} (hq :
  (if x1 < 0 then K h0 else (if x2 < 0 then K h0 else ((hS h0 x0).1 = 1 ∧ (if (hI h0 x0 1) < x1 then K h0 else (if ((hI h0 x0 1) - x1) < x2 then K h0 else ((¬ (((hI h0 x0 1) - x1) - x2) < 0 ∧ ¬ x1 < 0 ∧ ¬ (x1 + x2) < 0) ∧ ((¬ (hR h0 x0 0) = 1 ∧ ¬ (hR h0 x0 0) = 1) ∧ ((hS h0 (hR h0 x0 0)).1 = 21 ∧ (((x1 + x2).toNatClampNeg + (((hI h0 x0 1) - x1) - x2).toNatClampNeg ≤ (hS h0 (hR h0 x0 0)).2 ∧ x1.toNatClampNeg + (((hI h0 x0 1) - x1) - x2).toNatClampNeg ≤ (hS h0 (hR h0 x0 0)).2) ∧ (∀ h6 : Hp, h6 = cL h0 (hR h0 x0 0) (x1 + x2).toNatClampNeg (hR h0 x0 0) x1.toNatClampNeg (((hI h0 x0 1) - x1) - x2).toNatClampNeg → (∀ h7 : Hp, h7 = sI h6 x0 1 ((hI h6 x0 1) - x2) → K h7)))))))))))) : Ca d m_Lo_takeOut [.ref x0, .int x1, .int x2] h0 (QV K) := by
  show Wp _ _ 0 [some (.ref x0), some (.int x1), some (.int x2)] [] h0 _
  refine V.iload_n d_Lo_takeOut_0 rfl ?_
  refine V.if_lt (t := 59) d_Lo_takeOut_1 ⟨rfl, rfl⟩ (fun hc => ?_) (fun hc => ?_)
  · replace hq := ifp hc hq
    refine V.vret d_Lo_takeOut_59 rfl ?_
    exact V.rV hq
  · replace hq := ifn hc hq
    refine V.iload_n d_Lo_takeOut_4 rfl ?_
    refine V.if_lt (t := 59) d_Lo_takeOut_5 ⟨rfl, rfl⟩ (fun hc => ?_) (fun hc => ?_)
    · replace hq := ifp hc hq
      refine V.vret d_Lo_takeOut_59 rfl ?_
      exact V.rV hq
    · replace hq := ifn hc hq
      refine V.iload_n d_Lo_takeOut_8 rfl ?_
      refine V.aload_n d_Lo_takeOut_9 rfl ?_
      obtain ⟨g1, hq⟩ := hq
      refine V.get0 d_Lo_takeOut_10 rfl (List.mem_singleton.mpr g1) ?_
      refine V.ic_gt (t := 59) d_Lo_takeOut_13 ⟨rfl, rfl⟩ (fun hc => ?_) (fun hc => ?_)
      · replace hq := ifp hc hq
        refine V.vret d_Lo_takeOut_59 rfl ?_
        exact V.rV hq
      · replace hq := ifn hc hq
        refine V.iload_n d_Lo_takeOut_16 rfl ?_
        refine V.aload_n d_Lo_takeOut_17 rfl ?_
        refine V.get0 d_Lo_takeOut_18 rfl (List.mem_singleton.mpr g1) ?_
        refine V.iload_n d_Lo_takeOut_21 rfl ?_
        refine V.isub d_Lo_takeOut_22 ?_
        refine V.ic_gt (t := 59) d_Lo_takeOut_23 ⟨rfl, rfl⟩ (fun hc => ?_) (fun hc => ?_)
        · replace hq := ifp hc hq
          refine V.vret d_Lo_takeOut_59 rfl ?_
          exact V.rV hq
        · replace hq := ifn hc hq
          refine V.aload_n d_Lo_takeOut_26 rfl ?_
          refine V.get2 d_Lo_takeOut_27 rfl (List.mem_singleton.mpr g1) ?_
          refine V.iload_n d_Lo_takeOut_30 rfl ?_
          refine V.iload_n d_Lo_takeOut_31 rfl ?_
          refine V.iadd d_Lo_takeOut_32 ?_
          refine V.aload_n d_Lo_takeOut_33 rfl ?_
          refine V.get2 d_Lo_takeOut_34 rfl (List.mem_singleton.mpr g1) ?_
          refine V.iload_n d_Lo_takeOut_37 rfl ?_
          refine V.aload_n d_Lo_takeOut_38 rfl ?_
          refine V.get0 d_Lo_takeOut_39 rfl (List.mem_singleton.mpr g1) ?_
          refine V.iload_n d_Lo_takeOut_42 rfl ?_
          refine V.isub d_Lo_takeOut_43 ?_
          refine V.iload_n d_Lo_takeOut_44 rfl ?_
          refine V.isub d_Lo_takeOut_45 ?_
          obtain ⟨g2, hq⟩ := hq
          obtain ⟨g3, hq⟩ := hq
          obtain ⟨g4, hq⟩ := hq
          obtain ⟨g5, hq⟩ := hq
          refine V.cpyL d_Lo_takeOut_46 rfl (leb rfl) g2 g3 g4 g4 g5 ?_
          replace hq := hq _ rfl
          refine V.aload_n d_Lo_takeOut_49 rfl ?_
          refine V.dupR d_Lo_takeOut_50 ?_
          refine V.get0 d_Lo_takeOut_51 rfl (List.mem_singleton.mpr g1) ?_
          refine V.iload_n d_Lo_takeOut_54 rfl ?_
          refine V.isub d_Lo_takeOut_55 ?_
          refine V.put0 d_Lo_takeOut_56 rfl (Or.inl rfl) (List.mem_singleton.mpr g1) ?_
          replace hq := hq _ rfl
          refine V.vret d_Lo_takeOut_59 rfl ?_
          exact V.rV hq
theorem w_Lo_forgetAll {d : Nat} {K : Hp → Prop} {x0 : Nat} {h0 : Hp} (hq :
  ((hS h0 x0).1 = 1 ∧ (∀ h2 : Hp, h2 = sI h0 x0 1 (0 : Int32) → K h2))) : Ca d m_Lo_forgetAll [.ref x0] h0 (QV K) := by
  show Wp _ _ 0 [some (.ref x0)] [] h0 _
  refine V.aload_n d_Lo_forgetAll_0 rfl ?_
  refine V.iconst (x := 0) d_Lo_forgetAll_1 (by decide) ?_
  obtain ⟨g1, hq⟩ := hq
  refine V.put0 d_Lo_forgetAll_2 rfl (Or.inl rfl) (List.mem_singleton.mpr g1) ?_
  replace hq := hq _ rfl
  refine V.vret d_Lo_forgetAll_5 rfl ?_
  exact V.rV hq
theorem w_Lo_becomeLike {d : Nat} {K : Hp → Prop} {x0 : Nat} {x1 : Nat} {h0 : Hp} (hq :
  ((hS h0 x1).1 = 1 ∧ ((hS h0 x0).1 = 1 ∧ (isArr (hS h0 (hR h0 x0 0)).1 = true ∧ (∀ h4 : Hp, h4 = sI h0 x0 1 (if (Int32.ofNat (hS h0 (hR h0 x0 0)).2) < (hI h0 x1 1) then (Int32.ofNat (hS h0 (hR h0 x0 0)).2) else (hI h0 x1 1)) → ((¬ (hI h4 x0 1) < 0 ∧ ¬ (0 : Int32) < 0 ∧ ¬ (0 : Int32) < 0) ∧ ((¬ (hR h4 x1 0) = 1 ∧ ¬ (hR h4 x0 0) = 1) ∧ ((hS h0 (hR h4 x1 0)).1 = 21 ∧ ((hS h0 (hR h4 x0 0)).1 = 21 ∧ (((0 : Int32).toNatClampNeg + (hI h4 x0 1).toNatClampNeg ≤ (hS h0 (hR h4 x1 0)).2 ∧ (0 : Int32).toNatClampNeg + (hI h4 x0 1).toNatClampNeg ≤ (hS h0 (hR h4 x0 0)).2) ∧ (∀ h10 : Hp, h10 = cL h4 (hR h4 x1 0) (0 : Int32).toNatClampNeg (hR h4 x0 0) (0 : Int32).toNatClampNeg (hI h4 x0 1).toNatClampNeg → K h10))))))))))) : Ca d m_Lo_becomeLike [.ref x0, .ref x1] h0 (QV K) := by
  show Wp _ _ 0 [some (.ref x0), some (.ref x1)] [] h0 _
  refine V.aload_n d_Lo_becomeLike_0 rfl ?_
  refine V.aload_n d_Lo_becomeLike_1 rfl ?_
  obtain ⟨g1, hq⟩ := hq
  refine V.get0 d_Lo_becomeLike_2 rfl (List.mem_singleton.mpr g1) ?_
  refine V.aload_n d_Lo_becomeLike_5 rfl ?_
  obtain ⟨g2, hq⟩ := hq
  refine V.get2 d_Lo_becomeLike_6 rfl (List.mem_singleton.mpr g2) ?_
  obtain ⟨g3, hq⟩ := hq
  refine V.alen d_Lo_becomeLike_9 g3 ?_
  refine V.minI d_Lo_becomeLike_10 rfl (leb rfl) ?_
  refine V.put0 d_Lo_becomeLike_13 rfl (Or.inl rfl) (List.mem_singleton.mpr g2) ?_
  replace hq := hq _ rfl
  refine V.aload_n d_Lo_becomeLike_16 rfl ?_
  refine V.get2 d_Lo_becomeLike_17 rfl (List.mem_singleton.mpr g1) ?_
  refine V.iconst (x := 0) d_Lo_becomeLike_20 (by decide) ?_
  refine V.aload_n d_Lo_becomeLike_21 rfl ?_
  refine V.get2 d_Lo_becomeLike_22 rfl (List.mem_singleton.mpr g2) ?_
  refine V.iconst (x := 0) d_Lo_becomeLike_25 (by decide) ?_
  refine V.aload_n d_Lo_becomeLike_26 rfl ?_
  refine V.get0 d_Lo_becomeLike_27 rfl (List.mem_singleton.mpr g2) ?_
  obtain ⟨g5, hq⟩ := hq
  obtain ⟨g6, hq⟩ := hq
  obtain ⟨g7, hq⟩ := hq
  obtain ⟨g8, hq⟩ := hq
  obtain ⟨g9, hq⟩ := hq
  refine V.cpyL d_Lo_becomeLike_30 rfl (leb rfl) g5 g6 g7 g8 g9 ?_
  replace hq := hq _ rfl
  refine V.vret d_Lo_becomeLike_33 rfl ?_
  exact V.rV hq
theorem w_No_init {d : Nat} {K : Hp → Prop} {x0 : Nat} {h0 : Hp} (hq :
  (2 ≤ x0 ∧ K h0)) : Ca d m_No_init [.ref x0] h0 (QV K) := by
  show Wp _ _ 0 [some (.ref x0)] [] h0 _
  refine V.aload_n d_No_init_0 rfl ?_
  obtain ⟨g1, hq⟩ := hq
  refine V.objInit d_No_init_1 rfl g1 (leb rfl) ?_
  refine V.vret d_No_init_4 rfl ?_
  exact V.rV hq
theorem w_No_become {d : Nat} {K : Hp → Prop} {x0 : Nat} {x1 : Int32} {x2 : Nat} {x3 : Int32} {h0 : Hp} (hq :
  ((hS h0 x0).1 = 2 ∧ (∀ h2 : Hp, h2 = sI h0 x0 0 x1 → (∀ h3 : Hp, h3 = sR h2 x0 6 x2 → (∀ h4 : Hp, h4 = sI h3 x0 2 x3 → (∀ h5 : Hp, h5 = sI h4 x0 1 (0 : Int32) → (∀ h6 : Hp, h6 = sI h5 x0 3 (0 : Int32) → (∀ h7 : Hp, h7 = sI h6 x0 4 (-1 : Int32) → (∀ h8 : Hp, h8 = sR h7 x0 5 0 → (∀ h9 : Hp, h9 = sR h8 x0 7 0 → (∀ h10 : Hp, h10 = sR h9 x0 8 0 → (∀ h11 : Hp, h11 = sR h10 x0 9 0 → (∀ h12 : Hp, h12 = sR h11 x0 10 0 → (∀ h13 : Hp, h13 = sL h12 x0 11 (0 : Int64) → (∀ h14 : Hp, h14 = sL h13 x0 12 (0 : Int64) → (∀ h15 : Hp, h15 = sL h14 x0 13 (0 : Int64) → (∀ h16 : Hp, h16 = sL h15 x0 14 (0 : Int64) → (∀ h17 : Hp, h17 = sL h16 x0 15 (0 : Int64) → K h17)))))))))))))))))) : Ca d m_No_become [.ref x0, .int x1, .ref x2, .int x3] h0 (QV K) := by
  show Wp _ _ 0 [some (.ref x0), some (.int x1), some (.ref x2), some (.int x3)] [] h0 _
  refine V.aload_n d_No_become_0 rfl ?_
  refine V.iload_n d_No_become_1 rfl ?_
  obtain ⟨g1, hq⟩ := hq
  refine V.put0 d_No_become_2 rfl (Or.inl rfl) (List.mem_singleton.mpr g1) ?_
  replace hq := hq _ rfl
  refine V.aload_n d_No_become_5 rfl ?_
  refine V.aload_n d_No_become_6 rfl ?_
  refine V.put2 d_No_become_7 rfl (Or.inl rfl) (List.mem_singleton.mpr g1) ?_
  replace hq := hq _ rfl
  refine V.aload_n d_No_become_10 rfl ?_
  refine V.iload_n d_No_become_11 rfl ?_
  refine V.put0 d_No_become_12 rfl (Or.inl rfl) (List.mem_singleton.mpr g1) ?_
  replace hq := hq _ rfl
  refine V.aload_n d_No_become_15 rfl ?_
  refine V.iconst (x := 0) d_No_become_16 (by decide) ?_
  refine V.put0 d_No_become_17 rfl (Or.inl rfl) (List.mem_singleton.mpr g1) ?_
  replace hq := hq _ rfl
  refine V.aload_n d_No_become_20 rfl ?_
  refine V.iconst (x := 0) d_No_become_21 (by decide) ?_
  refine V.put0 d_No_become_22 rfl (Or.inl rfl) (List.mem_singleton.mpr g1) ?_
  replace hq := hq _ rfl
  refine V.aload_n d_No_become_25 rfl ?_
  refine V.iconst (x := -1) d_No_become_26 (by decide) ?_
  refine V.put0 d_No_become_27 rfl (Or.inl rfl) (List.mem_singleton.mpr g1) ?_
  replace hq := hq _ rfl
  refine V.aload_n d_No_become_30 rfl ?_
  refine V.aconst_null d_No_become_31 ?_
  refine V.put2 d_No_become_32 rfl (Or.inl rfl) (List.mem_singleton.mpr g1) ?_
  replace hq := hq _ rfl
  refine V.aload_n d_No_become_35 rfl ?_
  refine V.aconst_null d_No_become_36 ?_
  refine V.put2 d_No_become_37 rfl (Or.inl rfl) (List.mem_singleton.mpr g1) ?_
  replace hq := hq _ rfl
  refine V.aload_n d_No_become_40 rfl ?_
  refine V.aconst_null d_No_become_41 ?_
  refine V.put2 d_No_become_42 rfl (Or.inl rfl) (List.mem_singleton.mpr g1) ?_
  replace hq := hq _ rfl
  refine V.aload_n d_No_become_45 rfl ?_
  refine V.aconst_null d_No_become_46 ?_
  refine V.put2 d_No_become_47 rfl (Or.inl rfl) (List.mem_singleton.mpr g1) ?_
  replace hq := hq _ rfl
  refine V.aload_n d_No_become_50 rfl ?_
  refine V.aconst_null d_No_become_51 ?_
  refine V.put2 d_No_become_52 rfl (Or.inl rfl) (List.mem_singleton.mpr g1) ?_
  replace hq := hq _ rfl
  refine V.aload_n d_No_become_55 rfl ?_
  refine V.lconst (x := 0) d_No_become_56 (by decide) ?_
  refine V.put1 d_No_become_57 rfl (Or.inl rfl) (List.mem_singleton.mpr g1) ?_
  replace hq := hq _ rfl
  refine V.aload_n d_No_become_60 rfl ?_
  refine V.lconst (x := 0) d_No_become_61 (by decide) ?_
  refine V.put1 d_No_become_62 rfl (Or.inl rfl) (List.mem_singleton.mpr g1) ?_
  replace hq := hq _ rfl
  refine V.aload_n d_No_become_65 rfl ?_
  refine V.lconst (x := 0) d_No_become_66 (by decide) ?_
  refine V.put1 d_No_become_67 rfl (Or.inl rfl) (List.mem_singleton.mpr g1) ?_
  replace hq := hq _ rfl
  refine V.aload_n d_No_become_70 rfl ?_
  refine V.lconst (x := 0) d_No_become_71 (by decide) ?_
  refine V.put1 d_No_become_72 rfl (Or.inl rfl) (List.mem_singleton.mpr g1) ?_
  replace hq := hq _ rfl
  refine V.aload_n d_No_become_75 rfl ?_
  refine V.lconst (x := 0) d_No_become_76 (by decide) ?_
  refine V.put1 d_No_become_77 rfl (Or.inl rfl) (List.mem_singleton.mpr g1) ?_
  replace hq := hq _ rfl
  refine V.vret d_No_become_80 rfl ?_
  exact V.rV hq
theorem w_No_addPart {d : Nat} {K : Hp → Prop} {x0 : Nat} {x1 : Nat} {h0 : Hp} (hq :
  ((hS h0 x0).1 = 2 ∧ ((hS h0 x1).1 = 2 ∧ (∀ h3 : Hp, h3 = sR h0 x1 7 (hR h0 x0 10) → (if (hR h3 x0 10) = 0 then (∀ h4 : Hp, h4 = sR h3 x0 9 x1 → (∀ h5 : Hp, h5 = sR h4 x0 10 x1 → K h5)) else ((hS h0 (hR h3 x0 10)).1 = 2 ∧ (∀ h7 : Hp, h7 = sR h3 (hR h3 x0 10) 8 x1 → (∀ h8 : Hp, h8 = sR h7 x0 10 x1 → K h8)))))))) : Ca d m_No_addPart [.ref x0, .ref x1] h0 (QV K) := by
  show Wp _ _ 0 [some (.ref x0), some (.ref x1)] [] h0 _
  refine V.aload_n d_No_addPart_0 rfl ?_
  refine V.aload_n d_No_addPart_1 rfl ?_
  obtain ⟨g1, hq⟩ := hq
  refine V.get2 d_No_addPart_2 rfl (List.mem_singleton.mpr g1) ?_
  obtain ⟨g2, hq⟩ := hq
  refine V.put2 d_No_addPart_5 rfl (Or.inl rfl) (List.mem_singleton.mpr g2) ?_
  replace hq := hq _ rfl
  refine V.aload_n d_No_addPart_8 rfl ?_
  refine V.get2 d_No_addPart_9 rfl (List.mem_singleton.mpr g1) ?_
  refine V.ifnonnull (t := 23) d_No_addPart_12 ⟨rfl, rfl⟩ (fun hc => ?_) (fun hc => ?_)
  · replace hq := ifp hc hq
    refine V.aload_n d_No_addPart_15 rfl ?_
    refine V.aload_n d_No_addPart_16 rfl ?_
    refine V.put2 d_No_addPart_17 rfl (Or.inl rfl) (List.mem_singleton.mpr g1) ?_
    replace hq := hq _ rfl
    refine V.goto (t := 31) d_No_addPart_20 ⟨rfl, rfl⟩ ?_
    refine V.aload_n d_No_addPart_31 rfl ?_
    refine V.aload_n d_No_addPart_32 rfl ?_
    refine V.put2 d_No_addPart_33 rfl (Or.inl rfl) (List.mem_singleton.mpr g1) ?_
    replace hq := hq _ rfl
    refine V.vret d_No_addPart_36 rfl ?_
    exact V.rV hq
  · replace hq := ifn hc hq
    refine V.aload_n d_No_addPart_23 rfl ?_
    refine V.get2 d_No_addPart_24 rfl (List.mem_singleton.mpr g1) ?_
    refine V.aload_n d_No_addPart_27 rfl ?_
    obtain ⟨g6, hq⟩ := hq
    refine V.put2 d_No_addPart_28 rfl (Or.inl rfl) (List.mem_singleton.mpr g6) ?_
    replace hq := hq _ rfl
    refine V.aload_n d_No_addPart_31 rfl ?_
    refine V.aload_n d_No_addPart_32 rfl ?_
    refine V.put2 d_No_addPart_33 rfl (Or.inl rfl) (List.mem_singleton.mpr g1) ?_
    replace hq := hq _ rfl
    refine V.vret d_No_addPart_36 rfl ?_
    exact V.rV hq
theorem w_No_isPartOf {d : Nat} {K : Int32 → Hp → Prop} {x0 : Nat} {x1 : Int32} {h0 : Hp} (hq :
  ((hS h0 x0).1 = 2 ∧ (if (hR h0 x0 6) = 0 then K (0 : Int32) h0 else ((hS h0 (hR h0 x0 6)).1 = 2 ∧ (if (hI h0 (hR h0 x0 6) 0) = x1 then K (1 : Int32) h0 else K (0 : Int32) h0))))) : Ca d m_No_isPartOf [.ref x0, .int x1] h0 (QI K) := by
  show Wp _ _ 0 [some (.ref x0), some (.int x1)] [] h0 _
  refine V.aload_n d_No_isPartOf_0 rfl ?_
  obtain ⟨g1, hq⟩ := hq
  refine V.get2 d_No_isPartOf_1 rfl (List.mem_singleton.mpr g1) ?_
  refine V.ifnull (t := 22) d_No_isPartOf_4 ⟨rfl, rfl⟩ (fun hc => ?_) (fun hc => ?_)
  · replace hq := ifp hc hq
    refine V.iconst (x := 0) d_No_isPartOf_22 (by decide) ?_
    refine V.zret (y := (0 : Int32)) d_No_isPartOf_23 rfl (by decide) ?_
    exact V.rI hq
  · replace hq := ifn hc hq
    refine V.aload_n d_No_isPartOf_7 rfl ?_
    refine V.get2 d_No_isPartOf_8 rfl (List.mem_singleton.mpr g1) ?_
    obtain ⟨g2, hq⟩ := hq
    refine V.get0 d_No_isPartOf_11 rfl (List.mem_singleton.mpr g2) ?_
    refine V.iload_n d_No_isPartOf_14 rfl ?_
    refine V.ic_ne (t := 22) d_No_isPartOf_15 ⟨rfl, rfl⟩ (fun hc => ?_) (fun hc => ?_)
    · replace hq := ifp hc hq
      refine V.iconst (x := 1) d_No_isPartOf_18 (by decide) ?_
      refine V.goto (t := 23) d_No_isPartOf_19 ⟨rfl, rfl⟩ ?_
      refine V.zret (y := (1 : Int32)) d_No_isPartOf_23 rfl (by decide) ?_
      exact V.rI hq
    · replace hq := ifn hc hq
      refine V.iconst (x := 0) d_No_isPartOf_22 (by decide) ?_
      refine V.zret (y := (0 : Int32)) d_No_isPartOf_23 rfl (by decide) ?_
      exact V.rI hq
theorem w_No_mayBeNegative {d : Nat} {K : Int32 → Hp → Prop} {x0 : Nat} {h0 : Hp} (hq :
  ((hS h0 x0).1 = 2 ∧ (if (hI h0 x0 0) = (115 : Int32) then K (1 : Int32) h0 else (if (hI h0 x0 0) = (102 : Int32) then K (1 : Int32) h0 else (if (hI h0 x0 0) = (100 : Int32) then K (1 : Int32) h0 else K (0 : Int32) h0))))) : Ca d m_No_mayBeNegative [.ref x0] h0 (QI K) := by
  show Wp _ _ 0 [some (.ref x0)] [] h0 _
  refine V.aload_n d_No_mayBeNegative_0 rfl ?_
  obtain ⟨g1, hq⟩ := hq
  refine V.get0 d_No_mayBeNegative_1 rfl (List.mem_singleton.mpr g1) ?_
  refine V.bipush (x := 115) d_No_mayBeNegative_4 (by decide) ?_
  refine V.ic_eq (t := 27) d_No_mayBeNegative_6 ⟨rfl, rfl⟩ (fun hc => ?_) (fun hc => ?_)
  · replace hq := ifp hc hq
    refine V.iconst (x := 1) d_No_mayBeNegative_27 (by decide) ?_
    refine V.goto (t := 32) d_No_mayBeNegative_28 ⟨rfl, rfl⟩ ?_
    refine V.zret (y := (1 : Int32)) d_No_mayBeNegative_32 rfl (by decide) ?_
    exact V.rI hq
  · replace hq := ifn hc hq
    refine V.aload_n d_No_mayBeNegative_9 rfl ?_
    refine V.get0 d_No_mayBeNegative_10 rfl (List.mem_singleton.mpr g1) ?_
    refine V.bipush (x := 102) d_No_mayBeNegative_13 (by decide) ?_
    refine V.ic_eq (t := 27) d_No_mayBeNegative_15 ⟨rfl, rfl⟩ (fun hc => ?_) (fun hc => ?_)
    · replace hq := ifp hc hq
      refine V.iconst (x := 1) d_No_mayBeNegative_27 (by decide) ?_
      refine V.goto (t := 32) d_No_mayBeNegative_28 ⟨rfl, rfl⟩ ?_
      refine V.zret (y := (1 : Int32)) d_No_mayBeNegative_32 rfl (by decide) ?_
      exact V.rI hq
    · replace hq := ifn hc hq
      refine V.aload_n d_No_mayBeNegative_18 rfl ?_
      refine V.get0 d_No_mayBeNegative_19 rfl (List.mem_singleton.mpr g1) ?_
      refine V.bipush (x := 100) d_No_mayBeNegative_22 (by decide) ?_
      refine V.ic_ne (t := 31) d_No_mayBeNegative_24 ⟨rfl, rfl⟩ (fun hc => ?_) (fun hc => ?_)
      · replace hq := ifp hc hq
        refine V.iconst (x := 1) d_No_mayBeNegative_27 (by decide) ?_
        refine V.goto (t := 32) d_No_mayBeNegative_28 ⟨rfl, rfl⟩ ?_
        refine V.zret (y := (1 : Int32)) d_No_mayBeNegative_32 rfl (by decide) ?_
        exact V.rI hq
      · replace hq := ifn hc hq
        refine V.iconst (x := 0) d_No_mayBeNegative_31 (by decide) ?_
        refine V.zret (y := (0 : Int32)) d_No_mayBeNegative_32 rfl (by decide) ?_
        exact V.rI hq
theorem w_No_canBeMeant {d : Nat} {K : Int32 → Hp → Prop} {x0 : Nat} {h0 : Hp} (hq :
  ((hS h0 x0).1 = 2 ∧ (if (hI h0 x0 0) = (117 : Int32) then K (1 : Int32) h0 else (if (hI h0 x0 0) = (118 : Int32) then K (1 : Int32) h0 else (if (hI h0 x0 0) = (115 : Int32) then K (1 : Int32) h0 else (if (hI h0 x0 0) = (112 : Int32) then K (1 : Int32) h0 else K (0 : Int32) h0)))))) : Ca d m_No_canBeMeant [.ref x0] h0 (QI K) := by
  show Wp _ _ 0 [some (.ref x0)] [] h0 _
  refine V.aload_n d_No_canBeMeant_0 rfl ?_
  obtain ⟨g1, hq⟩ := hq
  refine V.get0 d_No_canBeMeant_1 rfl (List.mem_singleton.mpr g1) ?_
  refine V.bipush (x := 117) d_No_canBeMeant_4 (by decide) ?_
  refine V.ic_eq (t := 36) d_No_canBeMeant_6 ⟨rfl, rfl⟩ (fun hc => ?_) (fun hc => ?_)
  · replace hq := ifp hc hq
    refine V.iconst (x := 1) d_No_canBeMeant_36 (by decide) ?_
    refine V.goto (t := 41) d_No_canBeMeant_37 ⟨rfl, rfl⟩ ?_
    refine V.zret (y := (1 : Int32)) d_No_canBeMeant_41 rfl (by decide) ?_
    exact V.rI hq
  · replace hq := ifn hc hq
    refine V.aload_n d_No_canBeMeant_9 rfl ?_
    refine V.get0 d_No_canBeMeant_10 rfl (List.mem_singleton.mpr g1) ?_
    refine V.bipush (x := 118) d_No_canBeMeant_13 (by decide) ?_
    refine V.ic_eq (t := 36) d_No_canBeMeant_15 ⟨rfl, rfl⟩ (fun hc => ?_) (fun hc => ?_)
    · replace hq := ifp hc hq
      refine V.iconst (x := 1) d_No_canBeMeant_36 (by decide) ?_
      refine V.goto (t := 41) d_No_canBeMeant_37 ⟨rfl, rfl⟩ ?_
      refine V.zret (y := (1 : Int32)) d_No_canBeMeant_41 rfl (by decide) ?_
      exact V.rI hq
    · replace hq := ifn hc hq
      refine V.aload_n d_No_canBeMeant_18 rfl ?_
      refine V.get0 d_No_canBeMeant_19 rfl (List.mem_singleton.mpr g1) ?_
      refine V.bipush (x := 115) d_No_canBeMeant_22 (by decide) ?_
      refine V.ic_eq (t := 36) d_No_canBeMeant_24 ⟨rfl, rfl⟩ (fun hc => ?_) (fun hc => ?_)
      · replace hq := ifp hc hq
        refine V.iconst (x := 1) d_No_canBeMeant_36 (by decide) ?_
        refine V.goto (t := 41) d_No_canBeMeant_37 ⟨rfl, rfl⟩ ?_
        refine V.zret (y := (1 : Int32)) d_No_canBeMeant_41 rfl (by decide) ?_
        exact V.rI hq
      · replace hq := ifn hc hq
        refine V.aload_n d_No_canBeMeant_27 rfl ?_
        refine V.get0 d_No_canBeMeant_28 rfl (List.mem_singleton.mpr g1) ?_
        refine V.bipush (x := 112) d_No_canBeMeant_31 (by decide) ?_
        refine V.ic_ne (t := 40) d_No_canBeMeant_33 ⟨rfl, rfl⟩ (fun hc => ?_) (fun hc => ?_)
        · replace hq := ifp hc hq
          refine V.iconst (x := 1) d_No_canBeMeant_36 (by decide) ?_
          refine V.goto (t := 41) d_No_canBeMeant_37 ⟨rfl, rfl⟩ ?_
          refine V.zret (y := (1 : Int32)) d_No_canBeMeant_41 rfl (by decide) ?_
          exact V.rI hq
        · replace hq := ifn hc hq
          refine V.iconst (x := 0) d_No_canBeMeant_40 (by decide) ?_
          refine V.zret (y := (0 : Int32)) d_No_canBeMeant_41 rfl (by decide) ?_
          exact V.rI hq
theorem w_No_hasKey {d : Nat} {K : Int32 → Hp → Prop} {x0 : Nat} {h0 : Hp} (hq :
  ((hS h0 x0).1 = 2 ∧ (if (hI h0 x0 0) = (42 : Int32) then K (1 : Int32) h0 else (if (hI h0 x0 0) = (47 : Int32) then K (1 : Int32) h0 else (if (hI h0 x0 0) = (63 : Int32) then K (1 : Int32) h0 else K (0 : Int32) h0))))) : Ca d m_No_hasKey [.ref x0] h0 (QI K) := by
  show Wp _ _ 0 [some (.ref x0)] [] h0 _
  refine V.aload_n d_No_hasKey_0 rfl ?_
  obtain ⟨g1, hq⟩ := hq
  refine V.get0 d_No_hasKey_1 rfl (List.mem_singleton.mpr g1) ?_
  refine V.bipush (x := 42) d_No_hasKey_4 (by decide) ?_
  refine V.ic_eq (t := 27) d_No_hasKey_6 ⟨rfl, rfl⟩ (fun hc => ?_) (fun hc => ?_)
  · replace hq := ifp hc hq
    refine V.iconst (x := 1) d_No_hasKey_27 (by decide) ?_
    refine V.goto (t := 32) d_No_hasKey_28 ⟨rfl, rfl⟩ ?_
    refine V.zret (y := (1 : Int32)) d_No_hasKey_32 rfl (by decide) ?_
    exact V.rI hq
  · replace hq := ifn hc hq
    refine V.aload_n d_No_hasKey_9 rfl ?_
    refine V.get0 d_No_hasKey_10 rfl (List.mem_singleton.mpr g1) ?_
    refine V.bipush (x := 47) d_No_hasKey_13 (by decide) ?_
    refine V.ic_eq (t := 27) d_No_hasKey_15 ⟨rfl, rfl⟩ (fun hc => ?_) (fun hc => ?_)
    · replace hq := ifp hc hq
      refine V.iconst (x := 1) d_No_hasKey_27 (by decide) ?_
      refine V.goto (t := 32) d_No_hasKey_28 ⟨rfl, rfl⟩ ?_
      refine V.zret (y := (1 : Int32)) d_No_hasKey_32 rfl (by decide) ?_
      exact V.rI hq
    · replace hq := ifn hc hq
      refine V.aload_n d_No_hasKey_18 rfl ?_
      refine V.get0 d_No_hasKey_19 rfl (List.mem_singleton.mpr g1) ?_
      refine V.bipush (x := 63) d_No_hasKey_22 (by decide) ?_
      refine V.ic_ne (t := 31) d_No_hasKey_24 ⟨rfl, rfl⟩ (fun hc => ?_) (fun hc => ?_)
      · replace hq := ifp hc hq
        refine V.iconst (x := 1) d_No_hasKey_27 (by decide) ?_
        refine V.goto (t := 32) d_No_hasKey_28 ⟨rfl, rfl⟩ ?_
        refine V.zret (y := (1 : Int32)) d_No_hasKey_32 rfl (by decide) ?_
        exact V.rI hq
      · replace hq := ifn hc hq
        refine V.iconst (x := 0) d_No_hasKey_31 (by decide) ?_
        refine V.zret (y := (0 : Int32)) d_No_hasKey_32 rfl (by decide) ?_
        exact V.rI hq
theorem w_No_widenTo {d : Nat} {K : Hp → Prop} {x0 : Nat} {x1 : Int32} {h0 : Hp} (hq :
  ((hS h0 x0).1 = 2 ∧ (∀ h2 : Hp, h2 = sI h0 x0 1 x1 → (if (hI h2 x0 0) = (112 : Int32) then (∀ v3 : Int32, v3 = (hI h2 x0 1) → Ca d m_No_mayBeNegative [.ref x0] h2 (QI (fun v4 h5 => (if v4 = 0 then ((hS h5 x0).1 = 2 ∧ (∀ h8 : Hp, h8 = sL h5 x0 11 (0 : Int64) → (∀ h9 : Hp, h9 = sL h8 x0 12 (((1 : Int64) <<< (v3.toInt64 &&& 63)) - (1 : Int64)) → K h9))) else ((hS h5 x0).1 = 2 ∧ (∀ h11 : Hp, h11 = sL h5 x0 11 ((-1 : Int64) <<< ((v3 - (1 : Int32)).toInt64 &&& 63)) → (∀ h12 : Hp, h12 = sL h11 x0 12 ((hL h11 x0 11) ^^^ (-1 : Int64)) → K h12))))))) else (∀ v13 : Int32, v13 = ((8 : Int32) * (hI h2 x0 1)) → Ca d m_No_mayBeNegative [.ref x0] h2 (QI (fun v14 h15 => (if v14 = 0 then ((hS h15 x0).1 = 2 ∧ (∀ h18 : Hp, h18 = sL h15 x0 11 (0 : Int64) → (∀ h19 : Hp, h19 = sL h18 x0 12 (((1 : Int64) <<< (v13.toInt64 &&& 63)) - (1 : Int64)) → K h19))) else ((hS h15 x0).1 = 2 ∧ (∀ h21 : Hp, h21 = sL h15 x0 11 ((-1 : Int64) <<< ((v13 - (1 : Int32)).toInt64 &&& 63)) → (∀ h22 : Hp, h22 = sL h21 x0 12 ((hL h21 x0 11) ^^^ (-1 : Int64)) → K h22))))))))))) : Ca (d + 1) m_No_widenTo [.ref x0, .int x1] h0 (QV K) := by
  show Wp _ _ 0 [some (.ref x0), some (.int x1), none] [] h0 _
  refine V.aload_n d_No_widenTo_0 rfl ?_
  refine V.iload_n d_No_widenTo_1 rfl ?_
  obtain ⟨g1, hq⟩ := hq
  refine V.put0 d_No_widenTo_2 rfl (Or.inl rfl) (List.mem_singleton.mpr g1) ?_
  replace hq := hq _ rfl
  refine V.aload_n d_No_widenTo_5 rfl ?_
  refine V.get0 d_No_widenTo_6 rfl (List.mem_singleton.mpr g1) ?_
  refine V.bipush (x := 112) d_No_widenTo_9 (by decide) ?_
  refine V.ic_ne (t := 21) d_No_widenTo_11 ⟨rfl, rfl⟩ (fun hc => ?_) (fun hc => ?_)
  · replace hq := ifp hc hq
    refine V.aload_n d_No_widenTo_14 rfl ?_
    refine V.get0 d_No_widenTo_15 rfl (List.mem_singleton.mpr g1) ?_
    refine V.goto (t := 28) d_No_widenTo_18 ⟨rfl, rfl⟩ ?_
    replace hq := hq _ rfl
    refine V.istore_n (l' := [_, _, _]) d_No_widenTo_28 rfl (ltb rfl) ?_
    refine V.aload_n d_No_widenTo_29 rfl ?_
    refine V.callI d_No_widenTo_30 (cV_call (t := []) (rs := []) rfl (Or.inl rfl) rfl (lk1 g1) ⟨leb rfl, leb rfl⟩) hq (fun v4 h5 hq => ?_)
    refine V.if_eq (t := 62) d_No_widenTo_33 ⟨rfl, rfl⟩ (fun hc => ?_) (fun hc => ?_)
    · replace hq := ifp hc hq
      refine V.aload_n d_No_widenTo_62 rfl ?_
      refine V.lconst (x := 0) d_No_widenTo_63 (by decide) ?_
      obtain ⟨g7, hq⟩ := hq
      refine V.put1 d_No_widenTo_64 rfl (Or.inl rfl) (List.mem_singleton.mpr g7) ?_
      replace hq := hq _ rfl
      refine V.aload_n d_No_widenTo_67 rfl ?_
      refine V.lconst (x := 1) d_No_widenTo_68 (by decide) ?_
      refine V.iload_n d_No_widenTo_69 rfl ?_
      refine V.lshl d_No_widenTo_70 ?_
      refine V.lconst (x := 1) d_No_widenTo_71 (by decide) ?_
      refine V.lsub d_No_widenTo_72 ?_
      refine V.put1 d_No_widenTo_73 rfl (Or.inl rfl) (List.mem_singleton.mpr g7) ?_
      replace hq := hq _ rfl
      refine V.vret d_No_widenTo_76 rfl ?_
      exact V.rV hq
    · replace hq := ifn hc hq
      refine V.aload_n d_No_widenTo_36 rfl ?_
      refine V.ldc2_w d_No_widenTo_37 rfl ?_
      refine V.iload_n d_No_widenTo_40 rfl ?_
      refine V.iconst (x := 1) d_No_widenTo_41 (by decide) ?_
      refine V.isub d_No_widenTo_42 ?_
      refine V.lshl d_No_widenTo_43 ?_
      obtain ⟨g10, hq⟩ := hq
      refine V.put1 d_No_widenTo_44 rfl (Or.inl rfl) (List.mem_singleton.mpr g10) ?_
      replace hq := hq _ rfl
      refine V.aload_n d_No_widenTo_47 rfl ?_
      refine V.aload_n d_No_widenTo_48 rfl ?_
      refine V.get1 d_No_widenTo_49 rfl (List.mem_singleton.mpr g10) ?_
      refine V.ldc2_w d_No_widenTo_52 rfl ?_
      refine V.lxor d_No_widenTo_55 ?_
      refine V.put1 d_No_widenTo_56 rfl (Or.inl rfl) (List.mem_singleton.mpr g10) ?_
      replace hq := hq _ rfl
      refine V.goto (t := 76) d_No_widenTo_59 ⟨rfl, rfl⟩ ?_
      refine V.vret d_No_widenTo_76 rfl ?_
      exact V.rV hq
  · replace hq := ifn hc hq
    refine V.bipush (x := 8) d_No_widenTo_21 (by decide) ?_
    refine V.aload_n d_No_widenTo_23 rfl ?_
    refine V.get0 d_No_widenTo_24 rfl (List.mem_singleton.mpr g1) ?_
    refine V.imul d_No_widenTo_27 ?_
    replace hq := hq _ rfl
    refine V.istore_n (l' := [_, _, _]) d_No_widenTo_28 rfl (ltb rfl) ?_
    refine V.aload_n d_No_widenTo_29 rfl ?_
    refine V.callI d_No_widenTo_30 (cV_call (t := []) (rs := []) rfl (Or.inl rfl) rfl (lk1 g1) ⟨leb rfl, leb rfl⟩) hq (fun v14 h15 hq => ?_)
    refine V.if_eq (t := 62) d_No_widenTo_33 ⟨rfl, rfl⟩ (fun hc => ?_) (fun hc => ?_)
    · replace hq := ifp hc hq
      refine V.aload_n d_No_widenTo_62 rfl ?_
      refine V.lconst (x := 0) d_No_widenTo_63 (by decide) ?_
      obtain ⟨g17, hq⟩ := hq
      refine V.put1 d_No_widenTo_64 rfl (Or.inl rfl) (List.mem_singleton.mpr g17) ?_
      replace hq := hq _ rfl
      refine V.aload_n d_No_widenTo_67 rfl ?_
      refine V.lconst (x := 1) d_No_widenTo_68 (by decide) ?_
      refine V.iload_n d_No_widenTo_69 rfl ?_
      refine V.lshl d_No_widenTo_70 ?_
      refine V.lconst (x := 1) d_No_widenTo_71 (by decide) ?_
      refine V.lsub d_No_widenTo_72 ?_
      refine V.put1 d_No_widenTo_73 rfl (Or.inl rfl) (List.mem_singleton.mpr g17) ?_
      replace hq := hq _ rfl
      refine V.vret d_No_widenTo_76 rfl ?_
      exact V.rV hq
    · replace hq := ifn hc hq
      refine V.aload_n d_No_widenTo_36 rfl ?_
      refine V.ldc2_w d_No_widenTo_37 rfl ?_
      refine V.iload_n d_No_widenTo_40 rfl ?_
      refine V.iconst (x := 1) d_No_widenTo_41 (by decide) ?_
      refine V.isub d_No_widenTo_42 ?_
      refine V.lshl d_No_widenTo_43 ?_
      obtain ⟨g20, hq⟩ := hq
      refine V.put1 d_No_widenTo_44 rfl (Or.inl rfl) (List.mem_singleton.mpr g20) ?_
      replace hq := hq _ rfl
      refine V.aload_n d_No_widenTo_47 rfl ?_
      refine V.aload_n d_No_widenTo_48 rfl ?_
      refine V.get1 d_No_widenTo_49 rfl (List.mem_singleton.mpr g20) ?_
      refine V.ldc2_w d_No_widenTo_52 rfl ?_
      refine V.lxor d_No_widenTo_55 ?_
      refine V.put1 d_No_widenTo_56 rfl (Or.inl rfl) (List.mem_singleton.mpr g20) ?_
      replace hq := hq _ rfl
      refine V.goto (t := 76) d_No_widenTo_59 ⟨rfl, rfl⟩ ?_
      refine V.vret d_No_widenTo_76 rfl ?_
      exact V.rV hq
theorem w_No_limitTo {d : Nat} {K : Hp → Prop} {x0 : Nat} {x1 : Int32} {x2 : Int32} {h0 : Hp} (hq :
  (if x1 = (60 : Int32) then Wp d m_No_limitTo 32 [some (.ref x0), some (.int x1), some (.int x2)] [] h0 (QV K) else ((hS h0 x0).1 = 2 ∧ (if x1 = (62 : Int32) then (∀ h2 : Hp, h2 = sL h0 x0 11 (if ((x2 + (1 : Int32)).toInt64) < (hL h0 x0 11) then (hL h0 x0 11) else ((x2 + (1 : Int32)).toInt64)) → Wp d m_No_limitTo 32 [some (.ref x0), some (.int x1), some (.int x2)] [] h2 (QV K)) else (∀ h3 : Hp, h3 = sL h0 x0 11 (if (x2.toInt64) < (hL h0 x0 11) then (hL h0 x0 11) else (x2.toInt64)) → Wp d m_No_limitTo 32 [some (.ref x0), some (.int x1), some (.int x2)] [] h3 (QV K)))))) : Ca d m_No_limitTo [.ref x0, .int x1, .int x2] h0 (QV K) := by
  show Wp _ _ 0 [some (.ref x0), some (.int x1), some (.int x2)] [] h0 _
  refine V.iload_n d_No_limitTo_0 rfl ?_
  refine V.bipush (x := 60) d_No_limitTo_1 (by decide) ?_
  refine V.ic_eq (t := 32) d_No_limitTo_3 ⟨rfl, rfl⟩ (fun hc => ?_) (fun hc => ?_)
  · replace hq := ifp hc hq
    exact hq
  · replace hq := ifn hc hq
    refine V.aload_n d_No_limitTo_6 rfl ?_
    refine V.aload_n d_No_limitTo_7 rfl ?_
    obtain ⟨g1, hq⟩ := hq
    refine V.get1 d_No_limitTo_8 rfl (List.mem_singleton.mpr g1) ?_
    refine V.iload_n d_No_limitTo_11 rfl ?_
    refine V.bipush (x := 62) d_No_limitTo_12 (by decide) ?_
    refine V.ic_ne (t := 24) d_No_limitTo_14 ⟨rfl, rfl⟩ (fun hc => ?_) (fun hc => ?_)
    · replace hq := ifp hc hq
      refine V.iload_n d_No_limitTo_17 rfl ?_
      refine V.iconst (x := 1) d_No_limitTo_18 (by decide) ?_
      refine V.iadd d_No_limitTo_19 ?_
      refine V.i2l d_No_limitTo_20 ?_
      refine V.goto (t := 26) d_No_limitTo_21 ⟨rfl, rfl⟩ ?_
      refine V.maxL d_No_limitTo_26 rfl (leb rfl) ?_
      refine V.put1 d_No_limitTo_29 rfl (Or.inl rfl) (List.mem_singleton.mpr g1) ?_
      replace hq := hq _ rfl
      exact hq
    · replace hq := ifn hc hq
      refine V.iload_n d_No_limitTo_24 rfl ?_
      refine V.i2l d_No_limitTo_25 ?_
      refine V.maxL d_No_limitTo_26 rfl (leb rfl) ?_
      refine V.put1 d_No_limitTo_29 rfl (Or.inl rfl) (List.mem_singleton.mpr g1) ?_
      replace hq := hq _ rfl
      exact hq
theorem w_No_limitTo_32 {d : Nat} {K : Hp → Prop} {x0 : Nat} {x1 : Int32} {x2 : Int32} {h0 : Hp} (hq :
  (if x1 = (62 : Int32) then K h0 else ((hS h0 x0).1 = 2 ∧ (if x1 = (60 : Int32) then (∀ h5 : Hp, h5 = sL h0 x0 12 (if ((x2 - (1 : Int32)).toInt64) < (hL h0 x0 12) then ((x2 - (1 : Int32)).toInt64) else (hL h0 x0 12)) → K h5) else (∀ h6 : Hp, h6 = sL h0 x0 12 (if (x2.toInt64) < (hL h0 x0 12) then (x2.toInt64) else (hL h0 x0 12)) → K h6))))) : Wp d m_No_limitTo 32 [some (.ref x0), some (.int x1), some (.int x2)] [] h0 (QV K) := by
  refine V.iload_n d_No_limitTo_32 rfl ?_
  refine V.bipush (x := 62) d_No_limitTo_33 (by decide) ?_
  refine V.ic_eq (t := 64) d_No_limitTo_35 ⟨rfl, rfl⟩ (fun hc => ?_) (fun hc => ?_)
  · replace hq := ifp hc hq
    refine V.vret d_No_limitTo_64 rfl ?_
    exact V.rV hq
  · replace hq := ifn hc hq
    refine V.aload_n d_No_limitTo_38 rfl ?_
    refine V.aload_n d_No_limitTo_39 rfl ?_
    obtain ⟨g4, hq⟩ := hq
    refine V.get1 d_No_limitTo_40 rfl (List.mem_singleton.mpr g4) ?_
    refine V.iload_n d_No_limitTo_43 rfl ?_
    refine V.bipush (x := 60) d_No_limitTo_44 (by decide) ?_
    refine V.ic_ne (t := 56) d_No_limitTo_46 ⟨rfl, rfl⟩ (fun hc => ?_) (fun hc => ?_)
    · replace hq := ifp hc hq
      refine V.iload_n d_No_limitTo_49 rfl ?_
      refine V.iconst (x := 1) d_No_limitTo_50 (by decide) ?_
      refine V.isub d_No_limitTo_51 ?_
      refine V.i2l d_No_limitTo_52 ?_
      refine V.goto (t := 58) d_No_limitTo_53 ⟨rfl, rfl⟩ ?_
      refine V.minL d_No_limitTo_58 rfl (leb rfl) ?_
      refine V.put1 d_No_limitTo_61 rfl (Or.inl rfl) (List.mem_singleton.mpr g4) ?_
      replace hq := hq _ rfl
      refine V.vret d_No_limitTo_64 rfl ?_
      exact V.rV hq
    · replace hq := ifn hc hq
      refine V.iload_n d_No_limitTo_56 rfl ?_
      refine V.i2l d_No_limitTo_57 ?_
      refine V.minL d_No_limitTo_58 rfl (leb rfl) ?_
      refine V.put1 d_No_limitTo_61 rfl (Or.inl rfl) (List.mem_singleton.mpr g4) ?_
      replace hq := hq _ rfl
      refine V.vret d_No_limitTo_64 rfl ?_
      exact V.rV hq
theorem w_No_holds {d : Nat} {K : Int32 → Hp → Prop} {x0 : Nat} {x1 : Int64} {h0 : Hp} (hq :
  ((hS h0 x0).1 = 2 ∧ (if x1 < (hL h0 x0 11) then K (0 : Int32) h0 else (if (hL h0 x0 12) < x1 then K (0 : Int32) h0 else K (1 : Int32) h0)))) : Ca d m_No_holds [.ref x0, .long x1] h0 (QI K) := by
  show Wp _ _ 0 [some (.ref x0), some (.long x1), none] [] h0 _
  refine V.lload_n d_No_holds_0 rfl ?_
  refine V.aload_n d_No_holds_1 rfl ?_
  obtain ⟨g1, hq⟩ := hq
  refine V.get1 d_No_holds_2 rfl (List.mem_singleton.mpr g1) ?_
  refine V.lc_lt d_No_holds_5 d_No_holds_6 ⟨rfl, rfl⟩ (fun hc => ?_) (fun hc => ?_)
  · replace hq := ifp hc hq
    refine V.iconst (x := 0) d_No_holds_22 (by decide) ?_
    refine V.zret (y := (0 : Int32)) d_No_holds_23 rfl (by decide) ?_
    exact V.rI hq
  · replace hq := ifn hc hq
    refine V.lload_n d_No_holds_9 rfl ?_
    refine V.aload_n d_No_holds_10 rfl ?_
    refine V.get1 d_No_holds_11 rfl (List.mem_singleton.mpr g1) ?_
    refine V.lc_gt d_No_holds_14 d_No_holds_15 ⟨rfl, rfl⟩ (fun hc => ?_) (fun hc => ?_)
    · replace hq := ifp hc hq
      refine V.iconst (x := 0) d_No_holds_22 (by decide) ?_
      refine V.zret (y := (0 : Int32)) d_No_holds_23 rfl (by decide) ?_
      exact V.rI hq
    · replace hq := ifn hc hq
      refine V.iconst (x := 1) d_No_holds_18 (by decide) ?_
      refine V.goto (t := 23) d_No_holds_19 ⟨rfl, rfl⟩ ?_
      refine V.zret (y := (1 : Int32)) d_No_holds_23 rfl (by decide) ?_
      exact V.rI hq
