set_option maxRecDepth 100000 in
theorem w_Mo_inStructure {d : Nat} {K : Int32 → Hp → Prop} {x0 : Nat} {x1 : Int32} {h0 : Hp} (hq :
  ((hS h0 x0).1 = 8 ∧ (∀ v2 : Int32, v2 = ((hI h0 x0 28) - (1 : Int32)) → ((hS h0 (hR h0 x0 25)).1 = 20 ∧ (ainr v2 (hS h0 (hR h0 x0 25)).2 = true ∧ (if (hI h0 (hR h0 x0 25) v2.toNatClampNeg) = 0 then (if x1 = (125 : Int32) then Ca d m_Mo_finish [.ref x0] h0 (QV (fun h5 => K (1 : Int32) h5)) else ((hS h0 (hR h0 x0 27)).1 = 20 ∧ (¬ (hR h0 x0 27) = 1 ∧ (ainr v2 (hS h0 (hR h0 x0 27)).2 = true ∧ (∀ h10 : Hp, h10 = sI h0 (hR h0 x0 27) v2.toNatClampNeg (x1 - (97 : Int32)) → ((hS h0 (hR h10 x0 25)).1 = 20 ∧ (¬ (hR h10 x0 25) = 1 ∧ (ainr v2 (hS h0 (hR h10 x0 25)).2 = true ∧ (∀ h14 : Hp, h14 = sI h10 (hR h10 x0 25) v2.toNatClampNeg (1 : Int32) → Ca d m_Mo_isName [.ref x0, .int x1] h14 (QI (fun v15 h16 => (if v15 = 0 then K (0 : Int32) h16 else ((hS h16 x0).1 = 8 ∧ (if (hI h16 x0 28) < (5 : Int32) then K (1 : Int32) h16 else K (0 : Int32) h16)))))))))))))) else (if (hI h0 (hR h0 x0 25) v2.toNatClampNeg) = (2 : Int32) then Ca d m_Mo_beginType [.ref x0, .int x1] h0 (QI (fun v19 h20 => K (v19 &&& 1) h20)) else (if (hI h0 (hR h0 x0 25) v2.toNatClampNeg) = (1 : Int32) then (¬ (hR h0 x0 25) = 1 ∧ (∀ h23 : Hp, h23 = sI h0 (hR h0 x0 25) v2.toNatClampNeg (2 : Int32) → ((hS h0 (hR h23 x0 25)).1 = 20 ∧ (ainr v2 (hS h0 (hR h23 x0 25)).2 = true ∧ (if (hI h23 (hR h23 x0 25) v2.toNatClampNeg) = (2 : Int32) then (if x1 = (58 : Int32) then K (1 : Int32) h23 else K (0 : Int32) h23) else (if x1 = (59 : Int32) then K (1 : Int32) h23 else K (0 : Int32) h23)))))) else (¬ (hR h0 x0 25) = 1 ∧ (∀ h27 : Hp, h27 = sI h0 (hR h0 x0 25) v2.toNatClampNeg (0 : Int32) → ((hS h0 (hR h27 x0 25)).1 = 20 ∧ (ainr v2 (hS h0 (hR h27 x0 25)).2 = true ∧ (if (hI h27 (hR h27 x0 25) v2.toNatClampNeg) = (2 : Int32) then (if x1 = (58 : Int32) then K (1 : Int32) h27 else K (0 : Int32) h27) else (if x1 = (59 : Int32) then K (1 : Int32) h27 else K (0 : Int32) h27)))))))))))))) : Ca (d + 1) m_Mo_inStructure [.ref x0, .int x1] h0 (QI K) := by
  show Wp _ _ 0 [some (.ref x0), some (.int x1), none] [] h0 _
  refine V.aload_n d_Mo_inStructure_0 rfl ?_
  obtain ⟨g1, hq⟩ := hq
  refine V.get0 d_Mo_inStructure_1 rfl (List.mem_singleton.mpr g1) ?_
  refine V.iconst (x := 1) d_Mo_inStructure_4 (by decide) ?_
  refine V.isub d_Mo_inStructure_5 ?_
  replace hq := hq _ rfl
  refine V.istore_n (l' := [_, _, _]) d_Mo_inStructure_6 rfl (ltb rfl) ?_
  refine V.aload_n d_Mo_inStructure_7 rfl ?_
  refine V.get2 d_Mo_inStructure_8 rfl (List.mem_singleton.mpr g1) ?_
  refine V.iload_n d_Mo_inStructure_11 rfl ?_
  obtain ⟨g3, hq⟩ := hq
  obtain ⟨g4, hq⟩ := hq
  refine V.iaload d_Mo_inStructure_12 g3 g4 ?_
  refine V.if_ne (t := 67) d_Mo_inStructure_13 ⟨rfl, rfl⟩ (fun hc => ?_) (fun hc => ?_)
  · replace hq := ifp hc hq
    refine V.iload_n d_Mo_inStructure_16 rfl ?_
    refine V.bipush (x := 125) d_Mo_inStructure_17 (by decide) ?_
    refine V.ic_ne (t := 28) d_Mo_inStructure_19 ⟨rfl, rfl⟩ (fun hc => ?_) (fun hc => ?_)
    · replace hq := ifp hc hq
      refine V.aload_n d_Mo_inStructure_22 rfl ?_
      refine V.callV d_Mo_inStructure_23 (cV_call (t := []) (rs := []) rfl (Or.inl rfl) rfl (lk1 g1) ⟨leb rfl, leb rfl⟩) hq (fun h5 hq => ?_)
      refine V.iconst (x := 1) d_Mo_inStructure_26 (by decide) ?_
      refine V.zret (y := (1 : Int32)) d_Mo_inStructure_27 rfl (by decide) ?_
      exact V.rI hq
    · replace hq := ifn hc hq
      refine V.aload_n d_Mo_inStructure_28 rfl ?_
      refine V.get2 d_Mo_inStructure_29 rfl (List.mem_singleton.mpr g1) ?_
      refine V.iload_n d_Mo_inStructure_32 rfl ?_
      refine V.iload_n d_Mo_inStructure_33 rfl ?_
      refine V.bipush (x := 97) d_Mo_inStructure_34 (by decide) ?_
      refine V.isub d_Mo_inStructure_36 ?_
      obtain ⟨g7, hq⟩ := hq
      obtain ⟨g8, hq⟩ := hq
      obtain ⟨g9, hq⟩ := hq
      refine V.iastore d_Mo_inStructure_37 g7 g8 g9 ?_
      replace hq := hq _ rfl
      refine V.aload_n d_Mo_inStructure_38 rfl ?_
      refine V.get2 d_Mo_inStructure_39 rfl (List.mem_singleton.mpr g1) ?_
      refine V.iload_n d_Mo_inStructure_42 rfl ?_
      refine V.iconst (x := 1) d_Mo_inStructure_43 (by decide) ?_
      obtain ⟨g11, hq⟩ := hq
      obtain ⟨g12, hq⟩ := hq
      obtain ⟨g13, hq⟩ := hq
      refine V.iastore d_Mo_inStructure_44 g11 g12 g13 ?_
      replace hq := hq _ rfl
      refine V.aload_n d_Mo_inStructure_45 rfl ?_
      refine V.iload_n d_Mo_inStructure_46 rfl ?_
      refine V.callI d_Mo_inStructure_47 (cV_call (t := [_]) (rs := []) rfl (Or.inl rfl) rfl (lk1 g1) ⟨leb rfl, leb rfl⟩) hq (fun v15 h16 hq => ?_)
      refine V.if_eq (t := 65) d_Mo_inStructure_50 ⟨rfl, rfl⟩ (fun hc => ?_) (fun hc => ?_)
      · replace hq := ifp hc hq
        refine V.iconst (x := 0) d_Mo_inStructure_65 (by decide) ?_
        refine V.zret (y := (0 : Int32)) d_Mo_inStructure_66 rfl (by decide) ?_
        exact V.rI hq
      · replace hq := ifn hc hq
        refine V.aload_n d_Mo_inStructure_53 rfl ?_
        obtain ⟨g18, hq⟩ := hq
        refine V.get0 d_Mo_inStructure_54 rfl (List.mem_singleton.mpr g18) ?_
        refine V.iconst (x := 5) d_Mo_inStructure_57 (by decide) ?_
        refine V.ic_ge (t := 65) d_Mo_inStructure_58 ⟨rfl, rfl⟩ (fun hc => ?_) (fun hc => ?_)
        · replace hq := ifp hc hq
          refine V.iconst (x := 1) d_Mo_inStructure_61 (by decide) ?_
          refine V.goto (t := 66) d_Mo_inStructure_62 ⟨rfl, rfl⟩ ?_
          refine V.zret (y := (1 : Int32)) d_Mo_inStructure_66 rfl (by decide) ?_
          exact V.rI hq
        · replace hq := ifn hc hq
          refine V.iconst (x := 0) d_Mo_inStructure_65 (by decide) ?_
          refine V.zret (y := (0 : Int32)) d_Mo_inStructure_66 rfl (by decide) ?_
          exact V.rI hq
  · replace hq := ifn hc hq
    refine V.aload_n d_Mo_inStructure_67 rfl ?_
    refine V.get2 d_Mo_inStructure_68 rfl (List.mem_singleton.mpr g1) ?_
    refine V.iload_n d_Mo_inStructure_71 rfl ?_
    refine V.iaload d_Mo_inStructure_72 g3 g4 ?_
    refine V.iconst (x := 2) d_Mo_inStructure_73 (by decide) ?_
    refine V.ic_ne (t := 83) d_Mo_inStructure_74 ⟨rfl, rfl⟩ (fun hc => ?_) (fun hc => ?_)
    · replace hq := ifp hc hq
      refine V.aload_n d_Mo_inStructure_77 rfl ?_
      refine V.iload_n d_Mo_inStructure_78 rfl ?_
      refine V.callI d_Mo_inStructure_79 (cV_call (t := [_]) (rs := []) rfl (Or.inl rfl) rfl (lk1 g1) ⟨leb rfl, leb rfl⟩) hq (fun v19 h20 hq => ?_)
      refine V.zret (y := _) d_Mo_inStructure_82 rfl rfl ?_
      exact V.rI hq
    · replace hq := ifn hc hq
      refine V.aload_n d_Mo_inStructure_83 rfl ?_
      refine V.get2 d_Mo_inStructure_84 rfl (List.mem_singleton.mpr g1) ?_
      refine V.iload_n d_Mo_inStructure_87 rfl ?_
      refine V.aload_n d_Mo_inStructure_88 rfl ?_
      refine V.get2 d_Mo_inStructure_89 rfl (List.mem_singleton.mpr g1) ?_
      refine V.iload_n d_Mo_inStructure_92 rfl ?_
      refine V.iaload d_Mo_inStructure_93 g3 g4 ?_
      refine V.iconst (x := 1) d_Mo_inStructure_94 (by decide) ?_
      refine V.ic_ne (t := 102) d_Mo_inStructure_95 ⟨rfl, rfl⟩ (fun hc => ?_) (fun hc => ?_)
      · replace hq := ifp hc hq
        refine V.iconst (x := 2) d_Mo_inStructure_98 (by decide) ?_
        refine V.goto (t := 103) d_Mo_inStructure_99 ⟨rfl, rfl⟩ ?_
        obtain ⟨g22, hq⟩ := hq
        refine V.iastore d_Mo_inStructure_103 g3 g22 g4 ?_
        replace hq := hq _ rfl
        refine V.iload_n d_Mo_inStructure_104 rfl ?_
        refine V.aload_n d_Mo_inStructure_105 rfl ?_
        refine V.get2 d_Mo_inStructure_106 rfl (List.mem_singleton.mpr g1) ?_
        refine V.iload_n d_Mo_inStructure_109 rfl ?_
        obtain ⟨g24, hq⟩ := hq
        obtain ⟨g25, hq⟩ := hq
        refine V.iaload d_Mo_inStructure_110 g24 g25 ?_
        refine V.iconst (x := 2) d_Mo_inStructure_111 (by decide) ?_
        refine V.ic_ne (t := 120) d_Mo_inStructure_112 ⟨rfl, rfl⟩ (fun hc => ?_) (fun hc => ?_)
        · replace hq := ifp hc hq
          refine V.bipush (x := 58) d_Mo_inStructure_115 (by decide) ?_
          refine V.goto (t := 122) d_Mo_inStructure_117 ⟨rfl, rfl⟩ ?_
          refine V.ic_ne (t := 129) d_Mo_inStructure_122 ⟨rfl, rfl⟩ (fun hc => ?_) (fun hc => ?_)
          · replace hq := ifp hc hq
            refine V.iconst (x := 1) d_Mo_inStructure_125 (by decide) ?_
            refine V.goto (t := 130) d_Mo_inStructure_126 ⟨rfl, rfl⟩ ?_
            refine V.zret (y := (1 : Int32)) d_Mo_inStructure_130 rfl (by decide) ?_
            exact V.rI hq
          · replace hq := ifn hc hq
            refine V.iconst (x := 0) d_Mo_inStructure_129 (by decide) ?_
            refine V.zret (y := (0 : Int32)) d_Mo_inStructure_130 rfl (by decide) ?_
            exact V.rI hq
        · replace hq := ifn hc hq
          refine V.bipush (x := 59) d_Mo_inStructure_120 (by decide) ?_
          refine V.ic_ne (t := 129) d_Mo_inStructure_122 ⟨rfl, rfl⟩ (fun hc => ?_) (fun hc => ?_)
          · replace hq := ifp hc hq
            refine V.iconst (x := 1) d_Mo_inStructure_125 (by decide) ?_
            refine V.goto (t := 130) d_Mo_inStructure_126 ⟨rfl, rfl⟩ ?_
            refine V.zret (y := (1 : Int32)) d_Mo_inStructure_130 rfl (by decide) ?_
            exact V.rI hq
          · replace hq := ifn hc hq
            refine V.iconst (x := 0) d_Mo_inStructure_129 (by decide) ?_
            refine V.zret (y := (0 : Int32)) d_Mo_inStructure_130 rfl (by decide) ?_
            exact V.rI hq
      · replace hq := ifn hc hq
        refine V.iconst (x := 0) d_Mo_inStructure_102 (by decide) ?_
        obtain ⟨g26, hq⟩ := hq
        refine V.iastore d_Mo_inStructure_103 g3 g26 g4 ?_
        replace hq := hq _ rfl
        refine V.iload_n d_Mo_inStructure_104 rfl ?_
        refine V.aload_n d_Mo_inStructure_105 rfl ?_
        refine V.get2 d_Mo_inStructure_106 rfl (List.mem_singleton.mpr g1) ?_
        refine V.iload_n d_Mo_inStructure_109 rfl ?_
        obtain ⟨g28, hq⟩ := hq
        obtain ⟨g29, hq⟩ := hq
        refine V.iaload d_Mo_inStructure_110 g28 g29 ?_
        refine V.iconst (x := 2) d_Mo_inStructure_111 (by decide) ?_
        refine V.ic_ne (t := 120) d_Mo_inStructure_112 ⟨rfl, rfl⟩ (fun hc => ?_) (fun hc => ?_)
        · replace hq := ifp hc hq
          refine V.bipush (x := 58) d_Mo_inStructure_115 (by decide) ?_
          refine V.goto (t := 122) d_Mo_inStructure_117 ⟨rfl, rfl⟩ ?_
          refine V.ic_ne (t := 129) d_Mo_inStructure_122 ⟨rfl, rfl⟩ (fun hc => ?_) (fun hc => ?_)
          · replace hq := ifp hc hq
            refine V.iconst (x := 1) d_Mo_inStructure_125 (by decide) ?_
            refine V.goto (t := 130) d_Mo_inStructure_126 ⟨rfl, rfl⟩ ?_
            refine V.zret (y := (1 : Int32)) d_Mo_inStructure_130 rfl (by decide) ?_
            exact V.rI hq
          · replace hq := ifn hc hq
            refine V.iconst (x := 0) d_Mo_inStructure_129 (by decide) ?_
            refine V.zret (y := (0 : Int32)) d_Mo_inStructure_130 rfl (by decide) ?_
            exact V.rI hq
        · replace hq := ifn hc hq
          refine V.bipush (x := 59) d_Mo_inStructure_120 (by decide) ?_
          refine V.ic_ne (t := 129) d_Mo_inStructure_122 ⟨rfl, rfl⟩ (fun hc => ?_) (fun hc => ?_)
          · replace hq := ifp hc hq
            refine V.iconst (x := 1) d_Mo_inStructure_125 (by decide) ?_
            refine V.goto (t := 130) d_Mo_inStructure_126 ⟨rfl, rfl⟩ ?_
            refine V.zret (y := (1 : Int32)) d_Mo_inStructure_130 rfl (by decide) ?_
            exact V.rI hq
          · replace hq := ifn hc hq
            refine V.iconst (x := 0) d_Mo_inStructure_129 (by decide) ?_
            refine V.zret (y := (0 : Int32)) d_Mo_inStructure_130 rfl (by decide) ?_
            exact V.rI hq
theorem w_Mo_inChoice {d : Nat} {K : Int32 → Hp → Prop} {x0 : Nat} {x1 : Int32} {h0 : Hp} (hq :
  ((hS h0 x0).1 = 8 ∧ (∀ v2 : Int32, v2 = ((hI h0 x0 28) - (1 : Int32)) → ((hS h0 (hR h0 x0 24)).1 = 20 ∧ (ainr v2 (hS h0 (hR h0 x0 24)).2 = true ∧ (∀ v5 : Int32, v5 = (hI h0 (hR h0 x0 24) v2.toNatClampNeg) → ((hS h0 (hR h0 x0 25)).1 = 20 ∧ (ainr v2 (hS h0 (hR h0 x0 25)).2 = true ∧ (if (hI h0 (hR h0 x0 25) v2.toNatClampNeg) = (4 : Int32) then Ca d m_Mo_beginType [.ref x0, .int x1] h0 (QI (fun v8 h9 => K (v8 &&& 1) h9)) else (if (hI h0 (hR h0 x0 25) v2.toNatClampNeg) = 0 then ((hS h0 (hR h0 x0 16)).1 = 20 ∧ (¬ (hR h0 x0 16) = 1 ∧ (ainr v5 (hS h0 (hR h0 x0 16)).2 = true ∧ (∀ h14 : Hp, h14 = sI h0 (hR h0 x0 16) v5.toNatClampNeg (x1 - (97 : Int32)) → ((hS h0 (hR h14 x0 25)).1 = 20 ∧ (¬ (hR h14 x0 25) = 1 ∧ (ainr v2 (hS h0 (hR h14 x0 25)).2 = true ∧ (∀ h18 : Hp, h18 = sI h14 (hR h14 x0 25) v2.toNatClampNeg (1 : Int32) → Ca d m_Mo_isName [.ref x0, .int x1] h18 (QI (fun v19 h20 => K (v19 &&& 1) h20)))))))))) else (if (hI h0 (hR h0 x0 25) v2.toNatClampNeg) = (1 : Int32) then Wp (d + 1) m_Mo_inChoice 82 [some (.ref x0), some (.int x1), some (.int v2), some (.int v5), none] [] h0 (QI K) else (if (hI h0 (hR h0 x0 25) v2.toNatClampNeg) = (5 : Int32) then Wp (d + 1) m_Mo_inChoice 82 [some (.ref x0), some (.int x1), some (.int v2), some (.int v5), none] [] h0 (QI K) else (if (hI h0 (hR h0 x0 25) v2.toNatClampNeg) = (2 : Int32) then (if x1 = (125 : Int32) then ((hS h0 (hR h0 x0 20)).1 = 20 ∧ (ainr v5 (hS h0 (hR h0 x0 20)).2 = true ∧ (if (hI h0 (hR h0 x0 20) v5.toNatClampNeg) < 0 then Wp (d + 1) m_Mo_inChoice 151 [some (.ref x0), some (.int x1), some (.int v2), some (.int v5), none] [] h0 (QI K) else Ca d m_Mo_finish [.ref x0] h0 (QV (fun h24 => K (1 : Int32) h24))))) else Wp (d + 1) m_Mo_inChoice 151 [some (.ref x0), some (.int x1), some (.int v2), some (.int v5), none] [] h0 (QI K)) else Wp (d + 1) m_Mo_inChoice 151 [some (.ref x0), some (.int x1), some (.int v2), some (.int v5), none] [] h0 (QI K)))))))))))))) : Ca (d + 1) m_Mo_inChoice [.ref x0, .int x1] h0 (QI K) := by
  show Wp _ _ 0 [some (.ref x0), some (.int x1), none, none, none] [] h0 _
  refine V.aload_n d_Mo_inChoice_0 rfl ?_
  obtain ⟨g1, hq⟩ := hq
  refine V.get0 d_Mo_inChoice_1 rfl (List.mem_singleton.mpr g1) ?_
  refine V.iconst (x := 1) d_Mo_inChoice_4 (by decide) ?_
  refine V.isub d_Mo_inChoice_5 ?_
  replace hq := hq _ rfl
  refine V.istore_n (l' := [_, _, _, _, _]) d_Mo_inChoice_6 rfl (ltb rfl) ?_
  refine V.aload_n d_Mo_inChoice_7 rfl ?_
  refine V.get2 d_Mo_inChoice_8 rfl (List.mem_singleton.mpr g1) ?_
  refine V.iload_n d_Mo_inChoice_11 rfl ?_
  obtain ⟨g3, hq⟩ := hq
  obtain ⟨g4, hq⟩ := hq
  refine V.iaload d_Mo_inChoice_12 g3 g4 ?_
  replace hq := hq _ rfl
  refine V.istore_n (l' := [_, _, _, _, _]) d_Mo_inChoice_13 rfl (ltb rfl) ?_
  refine V.aload_n d_Mo_inChoice_14 rfl ?_
  refine V.get2 d_Mo_inChoice_15 rfl (List.mem_singleton.mpr g1) ?_
  refine V.iload_n d_Mo_inChoice_18 rfl ?_
  obtain ⟨g6, hq⟩ := hq
  obtain ⟨g7, hq⟩ := hq
  refine V.iaload d_Mo_inChoice_19 g6 g7 ?_
  refine V.iconst (x := 4) d_Mo_inChoice_20 (by decide) ?_
  refine V.ic_ne (t := 30) d_Mo_inChoice_21 ⟨rfl, rfl⟩ (fun hc => ?_) (fun hc => ?_)
  · replace hq := ifp hc hq
    refine V.aload_n d_Mo_inChoice_24 rfl ?_
    refine V.iload_n d_Mo_inChoice_25 rfl ?_
    refine V.callI d_Mo_inChoice_26 (cV_call (t := [_]) (rs := []) rfl (Or.inl rfl) rfl (lk1 g1) ⟨leb rfl, leb rfl⟩) hq (fun v8 h9 hq => ?_)
    refine V.zret (y := _) d_Mo_inChoice_29 rfl rfl ?_
    exact V.rI hq
  · replace hq := ifn hc hq
    refine V.aload_n d_Mo_inChoice_30 rfl ?_
    refine V.get2 d_Mo_inChoice_31 rfl (List.mem_singleton.mpr g1) ?_
    refine V.iload_n d_Mo_inChoice_34 rfl ?_
    refine V.iaload d_Mo_inChoice_35 g6 g7 ?_
    refine V.if_ne (t := 62) d_Mo_inChoice_36 ⟨rfl, rfl⟩ (fun hc => ?_) (fun hc => ?_)
    · replace hq := ifp hc hq
      refine V.aload_n d_Mo_inChoice_39 rfl ?_
      refine V.get2 d_Mo_inChoice_40 rfl (List.mem_singleton.mpr g1) ?_
      refine V.iload_n d_Mo_inChoice_43 rfl ?_
      refine V.iload_n d_Mo_inChoice_44 rfl ?_
      refine V.bipush (x := 97) d_Mo_inChoice_45 (by decide) ?_
      refine V.isub d_Mo_inChoice_47 ?_
      obtain ⟨g11, hq⟩ := hq
      obtain ⟨g12, hq⟩ := hq
      obtain ⟨g13, hq⟩ := hq
      refine V.iastore d_Mo_inChoice_48 g11 g12 g13 ?_
      replace hq := hq _ rfl
      refine V.aload_n d_Mo_inChoice_49 rfl ?_
      refine V.get2 d_Mo_inChoice_50 rfl (List.mem_singleton.mpr g1) ?_
      refine V.iload_n d_Mo_inChoice_53 rfl ?_
      refine V.iconst (x := 1) d_Mo_inChoice_54 (by decide) ?_
      obtain ⟨g15, hq⟩ := hq
      obtain ⟨g16, hq⟩ := hq
      obtain ⟨g17, hq⟩ := hq
      refine V.iastore d_Mo_inChoice_55 g15 g16 g17 ?_
      replace hq := hq _ rfl
      refine V.aload_n d_Mo_inChoice_56 rfl ?_
      refine V.iload_n d_Mo_inChoice_57 rfl ?_
      refine V.callI d_Mo_inChoice_58 (cV_call (t := [_]) (rs := []) rfl (Or.inl rfl) rfl (lk1 g1) ⟨leb rfl, leb rfl⟩) hq (fun v19 h20 hq => ?_)
      refine V.zret (y := _) d_Mo_inChoice_61 rfl rfl ?_
      exact V.rI hq
    · replace hq := ifn hc hq
      refine V.aload_n d_Mo_inChoice_62 rfl ?_
      refine V.get2 d_Mo_inChoice_63 rfl (List.mem_singleton.mpr g1) ?_
      refine V.iload_n d_Mo_inChoice_66 rfl ?_
      refine V.iaload d_Mo_inChoice_67 g6 g7 ?_
      refine V.iconst (x := 1) d_Mo_inChoice_68 (by decide) ?_
      refine V.ic_eq (t := 82) d_Mo_inChoice_69 ⟨rfl, rfl⟩ (fun hc => ?_) (fun hc => ?_)
      · replace hq := ifp hc hq
        exact hq
      · replace hq := ifn hc hq
        refine V.aload_n d_Mo_inChoice_72 rfl ?_
        refine V.get2 d_Mo_inChoice_73 rfl (List.mem_singleton.mpr g1) ?_
        refine V.iload_n d_Mo_inChoice_76 rfl ?_
        refine V.iaload d_Mo_inChoice_77 g6 g7 ?_
        refine V.iconst (x := 5) d_Mo_inChoice_78 (by decide) ?_
        refine V.ic_ne (t := 120) d_Mo_inChoice_79 ⟨rfl, rfl⟩ (fun hc => ?_) (fun hc => ?_)
        · replace hq := ifp hc hq
          exact hq
        · replace hq := ifn hc hq
          refine V.aload_n d_Mo_inChoice_120 rfl ?_
          refine V.get2 d_Mo_inChoice_121 rfl (List.mem_singleton.mpr g1) ?_
          refine V.iload_n d_Mo_inChoice_124 rfl ?_
          refine V.iaload d_Mo_inChoice_125 g6 g7 ?_
          refine V.iconst (x := 2) d_Mo_inChoice_126 (by decide) ?_
          refine V.ic_ne (t := 151) d_Mo_inChoice_127 ⟨rfl, rfl⟩ (fun hc => ?_) (fun hc => ?_)
          · replace hq := ifp hc hq
            refine V.iload_n d_Mo_inChoice_130 rfl ?_
            refine V.bipush (x := 125) d_Mo_inChoice_131 (by decide) ?_
            refine V.ic_ne (t := 151) d_Mo_inChoice_133 ⟨rfl, rfl⟩ (fun hc => ?_) (fun hc => ?_)
            · replace hq := ifp hc hq
              refine V.aload_n d_Mo_inChoice_136 rfl ?_
              refine V.get2 d_Mo_inChoice_137 rfl (List.mem_singleton.mpr g1) ?_
              refine V.iload_n d_Mo_inChoice_140 rfl ?_
              obtain ⟨g22, hq⟩ := hq
              obtain ⟨g23, hq⟩ := hq
              refine V.iaload d_Mo_inChoice_141 g22 g23 ?_
              refine V.if_lt (t := 151) d_Mo_inChoice_142 ⟨rfl, rfl⟩ (fun hc => ?_) (fun hc => ?_)
              · replace hq := ifp hc hq
                exact hq
              · replace hq := ifn hc hq
                refine V.aload_n d_Mo_inChoice_145 rfl ?_
                refine V.callV d_Mo_inChoice_146 (cV_call (t := []) (rs := []) rfl (Or.inl rfl) rfl (lk1 g1) ⟨leb rfl, leb rfl⟩) hq (fun h24 hq => ?_)
                refine V.iconst (x := 1) d_Mo_inChoice_149 (by decide) ?_
                refine V.zret (y := (1 : Int32)) d_Mo_inChoice_150 rfl (by decide) ?_
                exact V.rI hq
            · replace hq := ifn hc hq
              exact hq
          · replace hq := ifn hc hq
            exact hq
theorem w_Mo_inChoice_82 {d : Nat} {K : Int32 → Hp → Prop} {x0 : Nat} {x1 : Int32} {x2 : Int32} {y3 : Option Value} {y4 : Option Value} {h0 : Hp} (hq :
  ((hS h0 x0).1 = 8 ∧ ((hS h0 (hR h0 x0 25)).1 = 20 ∧ (ainr x2 (hS h0 (hR h0 x0 25)).2 = true ∧ (if (hI h0 (hR h0 x0 25) x2.toNatClampNeg) = (1 : Int32) then (¬ (hR h0 x0 25) = 1 ∧ (∀ h30 : Hp, h30 = sI h0 (hR h0 x0 25) x2.toNatClampNeg (2 : Int32) → (if x1 = (123 : Int32) then K (1 : Int32) h30 else K (0 : Int32) h30))) else (¬ (hR h0 x0 25) = 1 ∧ (∀ h32 : Hp, h32 = sI h0 (hR h0 x0 25) x2.toNatClampNeg (2 : Int32) → (if x1 = (59 : Int32) then K (1 : Int32) h32 else K (0 : Int32) h32)))))))) : Wp (d + 1) m_Mo_inChoice 82 [some (.ref x0), some (.int x1), some (.int x2), y3, y4] [] h0 (QI K) := by
  refine V.aload_n d_Mo_inChoice_82 rfl ?_
  obtain ⟨g26, hq⟩ := hq
  refine V.get2 d_Mo_inChoice_83 rfl (List.mem_singleton.mpr g26) ?_
  refine V.iload_n d_Mo_inChoice_86 rfl ?_
  obtain ⟨g27, hq⟩ := hq
  obtain ⟨g28, hq⟩ := hq
  refine V.iaload d_Mo_inChoice_87 g27 g28 ?_
  refine V.iconst (x := 1) d_Mo_inChoice_88 (by decide) ?_
  refine V.ic_ne (t := 97) d_Mo_inChoice_89 ⟨rfl, rfl⟩ (fun hc => ?_) (fun hc => ?_)
  · replace hq := ifp hc hq
    refine V.bipush (x := 123) d_Mo_inChoice_92 (by decide) ?_
    refine V.goto (t := 99) d_Mo_inChoice_94 ⟨rfl, rfl⟩ ?_
    refine V.istore (l' := [_, _, _, _, _]) d_Mo_inChoice_99 ((st1_alt (ltb rfl)).trans rfl) (ltb rfl) ?_
    refine V.aload_n d_Mo_inChoice_101 rfl ?_
    refine V.get2 d_Mo_inChoice_102 rfl (List.mem_singleton.mpr g26) ?_
    refine V.iload_n d_Mo_inChoice_105 rfl ?_
    refine V.iconst (x := 2) d_Mo_inChoice_106 (by decide) ?_
    obtain ⟨g29, hq⟩ := hq
    refine V.iastore d_Mo_inChoice_107 g27 g29 g28 ?_
    replace hq := hq _ rfl
    refine V.iload_n d_Mo_inChoice_108 rfl ?_
    refine V.iload d_Mo_inChoice_109 rfl ?_
    refine V.ic_ne (t := 118) d_Mo_inChoice_111 ⟨rfl, rfl⟩ (fun hc => ?_) (fun hc => ?_)
    · replace hq := ifp hc hq
      refine V.iconst (x := 1) d_Mo_inChoice_114 (by decide) ?_
      refine V.goto (t := 119) d_Mo_inChoice_115 ⟨rfl, rfl⟩ ?_
      refine V.zret (y := (1 : Int32)) d_Mo_inChoice_119 rfl (by decide) ?_
      exact V.rI hq
    · replace hq := ifn hc hq
      refine V.iconst (x := 0) d_Mo_inChoice_118 (by decide) ?_
      refine V.zret (y := (0 : Int32)) d_Mo_inChoice_119 rfl (by decide) ?_
      exact V.rI hq
  · replace hq := ifn hc hq
    refine V.bipush (x := 59) d_Mo_inChoice_97 (by decide) ?_
    refine V.istore (l' := [_, _, _, _, _]) d_Mo_inChoice_99 ((st1_alt (ltb rfl)).trans rfl) (ltb rfl) ?_
    refine V.aload_n d_Mo_inChoice_101 rfl ?_
    refine V.get2 d_Mo_inChoice_102 rfl (List.mem_singleton.mpr g26) ?_
    refine V.iload_n d_Mo_inChoice_105 rfl ?_
    refine V.iconst (x := 2) d_Mo_inChoice_106 (by decide) ?_
    obtain ⟨g31, hq⟩ := hq
    refine V.iastore d_Mo_inChoice_107 g27 g31 g28 ?_
    replace hq := hq _ rfl
    refine V.iload_n d_Mo_inChoice_108 rfl ?_
    refine V.iload d_Mo_inChoice_109 rfl ?_
    refine V.ic_ne (t := 118) d_Mo_inChoice_111 ⟨rfl, rfl⟩ (fun hc => ?_) (fun hc => ?_)
    · replace hq := ifp hc hq
      refine V.iconst (x := 1) d_Mo_inChoice_114 (by decide) ?_
      refine V.goto (t := 119) d_Mo_inChoice_115 ⟨rfl, rfl⟩ ?_
      refine V.zret (y := (1 : Int32)) d_Mo_inChoice_119 rfl (by decide) ?_
      exact V.rI hq
    · replace hq := ifn hc hq
      refine V.iconst (x := 0) d_Mo_inChoice_118 (by decide) ?_
      refine V.zret (y := (0 : Int32)) d_Mo_inChoice_119 rfl (by decide) ?_
      exact V.rI hq
theorem w_Mo_inChoice_151 {d : Nat} {K : Int32 → Hp → Prop} {x0 : Nat} {x1 : Int32} {x2 : Int32} {y3 : Option Value} {y4 : Option Value} {h0 : Hp} (hq :
  ((hS h0 x0).1 = 8 ∧ Ca d m_Mo_isDigit [.ref x0, .int x1] h0 (QI (fun v34 h35 => (if v34 = 0 then Wp (d + 1) m_Mo_inChoice 253 [some (.ref x0), some (.int x1), some (.int x2), y3, y4] [] h35 (QI K) else ((hS h35 x0).1 = 8 ∧ ((hS h35 (hR h35 x0 25)).1 = 20 ∧ (ainr x2 (hS h35 (hR h35 x0 25)).2 = true ∧ (if (hI h35 (hR h35 x0 25) x2.toNatClampNeg) = (2 : Int32) then Wp (d + 1) m_Mo_inChoice 179 [some (.ref x0), some (.int x1), some (.int x2), y3, y4] [] h35 (QI K) else ((hS h35 (hR h35 x0 26)).1 = 20 ∧ (ainr x2 (hS h35 (hR h35 x0 26)).2 = true ∧ (if (hI h35 (hR h35 x0 26) x2.toNatClampNeg) < (3 : Int32) then Wp (d + 1) m_Mo_inChoice 179 [some (.ref x0), some (.int x1), some (.int x2), y3, y4] [] h35 (QI K) else Wp (d + 1) m_Mo_inChoice 253 [some (.ref x0), some (.int x1), some (.int x2), y3, y4] [] h35 (QI K))))))))))))) : Wp (d + 1) m_Mo_inChoice 151 [some (.ref x0), some (.int x1), some (.int x2), y3, y4] [] h0 (QI K) := by
  refine V.aload_n d_Mo_inChoice_151 rfl ?_
  refine V.iload_n d_Mo_inChoice_152 rfl ?_
  obtain ⟨g33, hq⟩ := hq
  refine V.callI d_Mo_inChoice_153 (cV_call (t := [_]) (rs := []) rfl (Or.inl rfl) rfl (lk1 g33) ⟨leb rfl, leb rfl⟩) hq (fun v34 h35 hq => ?_)
  refine V.if_eq (t := 253) d_Mo_inChoice_156 ⟨rfl, rfl⟩ (fun hc => ?_) (fun hc => ?_)
  · replace hq := ifp hc hq
    exact hq
  · replace hq := ifn hc hq
    refine V.aload_n d_Mo_inChoice_159 rfl ?_
    obtain ⟨g37, hq⟩ := hq
    refine V.get2 d_Mo_inChoice_160 rfl (List.mem_singleton.mpr g37) ?_
    refine V.iload_n d_Mo_inChoice_163 rfl ?_
    obtain ⟨g38, hq⟩ := hq
    obtain ⟨g39, hq⟩ := hq
    refine V.iaload d_Mo_inChoice_164 g38 g39 ?_
    refine V.iconst (x := 2) d_Mo_inChoice_165 (by decide) ?_
    refine V.ic_eq (t := 179) d_Mo_inChoice_166 ⟨rfl, rfl⟩ (fun hc => ?_) (fun hc => ?_)
    · replace hq := ifp hc hq
      exact hq
    · replace hq := ifn hc hq
      refine V.aload_n d_Mo_inChoice_169 rfl ?_
      refine V.get2 d_Mo_inChoice_170 rfl (List.mem_singleton.mpr g37) ?_
      refine V.iload_n d_Mo_inChoice_173 rfl ?_
      obtain ⟨g40, hq⟩ := hq
      obtain ⟨g41, hq⟩ := hq
      refine V.iaload d_Mo_inChoice_174 g40 g41 ?_
      refine V.iconst (x := 3) d_Mo_inChoice_175 (by decide) ?_
      refine V.ic_ge (t := 253) d_Mo_inChoice_176 ⟨rfl, rfl⟩ (fun hc => ?_) (fun hc => ?_)
      · replace hq := ifp hc hq
        exact hq
      · replace hq := ifn hc hq
        exact hq
theorem w_Mo_inChoice_253 {d : Nat} {K : Int32 → Hp → Prop} {x0 : Nat} {x1 : Int32} {x2 : Int32} {y3 : Option Value} {y4 : Option Value} {h0 : Hp} (hq :
  ((hS h0 x0).1 = 8 ∧ ((hS h0 (hR h0 x0 25)).1 = 20 ∧ (ainr x2 (hS h0 (hR h0 x0 25)).2 = true ∧ (if (hI h0 (hR h0 x0 25) x2.toNatClampNeg) = (3 : Int32) then (if x1 = (58 : Int32) then (¬ (hR h0 x0 25) = 1 ∧ (∀ h46 : Hp, h46 = sI h0 (hR h0 x0 25) x2.toNatClampNeg (4 : Int32) → K (1 : Int32) h46)) else (¬ (hR h0 x0 25) = 1 ∧ (∀ h48 : Hp, h48 = sI h0 (hR h0 x0 25) x2.toNatClampNeg (4 : Int32) → K (0 : Int32) h48))) else (¬ (hR h0 x0 25) = 1 ∧ (∀ h50 : Hp, h50 = sI h0 (hR h0 x0 25) x2.toNatClampNeg (4 : Int32) → K (0 : Int32) h50))))))) : Wp (d + 1) m_Mo_inChoice 253 [some (.ref x0), some (.int x1), some (.int x2), y3, y4] [] h0 (QI K) := by
  refine V.aload_n d_Mo_inChoice_253 rfl ?_
  obtain ⟨g42, hq⟩ := hq
  refine V.get2 d_Mo_inChoice_254 rfl (List.mem_singleton.mpr g42) ?_
  refine V.iload_n d_Mo_inChoice_257 rfl ?_
  obtain ⟨g43, hq⟩ := hq
  obtain ⟨g44, hq⟩ := hq
  refine V.iaload d_Mo_inChoice_258 g43 g44 ?_
  refine V.iconst (x := 3) d_Mo_inChoice_259 (by decide) ?_
  refine V.ic_ne (t := 273) d_Mo_inChoice_260 ⟨rfl, rfl⟩ (fun hc => ?_) (fun hc => ?_)
  · replace hq := ifp hc hq
    refine V.iload_n d_Mo_inChoice_263 rfl ?_
    refine V.bipush (x := 58) d_Mo_inChoice_264 (by decide) ?_
    refine V.ic_ne (t := 273) d_Mo_inChoice_266 ⟨rfl, rfl⟩ (fun hc => ?_) (fun hc => ?_)
    · replace hq := ifp hc hq
      refine V.iconst (x := 1) d_Mo_inChoice_269 (by decide) ?_
      refine V.goto (t := 274) d_Mo_inChoice_270 ⟨rfl, rfl⟩ ?_
      refine V.istore (l' := [_, _, _, _, _]) d_Mo_inChoice_274 ((st1_alt (ltb rfl)).trans rfl) (ltb rfl) ?_
      refine V.aload_n d_Mo_inChoice_276 rfl ?_
      refine V.get2 d_Mo_inChoice_277 rfl (List.mem_singleton.mpr g42) ?_
      refine V.iload_n d_Mo_inChoice_280 rfl ?_
      refine V.iconst (x := 4) d_Mo_inChoice_281 (by decide) ?_
      obtain ⟨g45, hq⟩ := hq
      refine V.iastore d_Mo_inChoice_282 g43 g45 g44 ?_
      replace hq := hq _ rfl
      refine V.iload d_Mo_inChoice_283 rfl ?_
      refine V.zret (y := (1 : Int32)) d_Mo_inChoice_285 rfl (by decide) ?_
      exact V.rI hq
    · replace hq := ifn hc hq
      refine V.iconst (x := 0) d_Mo_inChoice_273 (by decide) ?_
      refine V.istore (l' := [_, _, _, _, _]) d_Mo_inChoice_274 ((st1_alt (ltb rfl)).trans rfl) (ltb rfl) ?_
      refine V.aload_n d_Mo_inChoice_276 rfl ?_
      refine V.get2 d_Mo_inChoice_277 rfl (List.mem_singleton.mpr g42) ?_
      refine V.iload_n d_Mo_inChoice_280 rfl ?_
      refine V.iconst (x := 4) d_Mo_inChoice_281 (by decide) ?_
      obtain ⟨g47, hq⟩ := hq
      refine V.iastore d_Mo_inChoice_282 g43 g47 g44 ?_
      replace hq := hq _ rfl
      refine V.iload d_Mo_inChoice_283 rfl ?_
      refine V.zret (y := (0 : Int32)) d_Mo_inChoice_285 rfl (by decide) ?_
      exact V.rI hq
  · replace hq := ifn hc hq
    refine V.iconst (x := 0) d_Mo_inChoice_273 (by decide) ?_
    refine V.istore (l' := [_, _, _, _, _]) d_Mo_inChoice_274 ((st1_alt (ltb rfl)).trans rfl) (ltb rfl) ?_
    refine V.aload_n d_Mo_inChoice_276 rfl ?_
    refine V.get2 d_Mo_inChoice_277 rfl (List.mem_singleton.mpr g42) ?_
    refine V.iload_n d_Mo_inChoice_280 rfl ?_
    refine V.iconst (x := 4) d_Mo_inChoice_281 (by decide) ?_
    obtain ⟨g49, hq⟩ := hq
    refine V.iastore d_Mo_inChoice_282 g43 g49 g44 ?_
    replace hq := hq _ rfl
    refine V.iload d_Mo_inChoice_283 rfl ?_
    refine V.zret (y := (0 : Int32)) d_Mo_inChoice_285 rfl (by decide) ?_
    exact V.rI hq
set_option maxRecDepth 100000 in
theorem w_Mo_inChoice_179 {d : Nat} {K : Int32 → Hp → Prop} {x0 : Nat} {x1 : Int32} {x2 : Int32} {y3 : Option Value} {y4 : Option Value} {h0 : Hp} (hq :
  ((hS h0 x0).1 = 8 ∧ ((hS h0 (hR h0 x0 25)).1 = 20 ∧ (ainr x2 (hS h0 (hR h0 x0 25)).2 = true ∧ (if (hI h0 (hR h0 x0 25) x2.toNatClampNeg) = (2 : Int32) then ((hS h0 (hR h0 x0 27)).1 = 20 ∧ (¬ (hR h0 x0 27) = 1 ∧ (ainr x2 (hS h0 (hR h0 x0 27)).2 = true ∧ (∀ h57 : Hp, h57 = sI h0 (hR h0 x0 27) x2.toNatClampNeg (x1 - (48 : Int32)) → ((hS h0 (hR h57 x0 25)).1 = 20 ∧ (ainr x2 (hS h0 (hR h57 x0 25)).2 = true ∧ (if (hI h57 (hR h57 x0 25) x2.toNatClampNeg) = (2 : Int32) then ((hS h0 (hR h57 x0 26)).1 = 20 ∧ (¬ (hR h57 x0 26) = 1 ∧ (ainr x2 (hS h0 (hR h57 x0 26)).2 = true ∧ (∀ h63 : Hp, h63 = sI h57 (hR h57 x0 26) x2.toNatClampNeg (1 : Int32) → ((hS h0 (hR h63 x0 25)).1 = 20 ∧ (¬ (hR h63 x0 25) = 1 ∧ (ainr x2 (hS h0 (hR h63 x0 25)).2 = true ∧ (∀ h67 : Hp, h67 = sI h63 (hR h63 x0 25) x2.toNatClampNeg (3 : Int32) → K (1 : Int32) h67)))))))) else ((hS h0 (hR h57 x0 26)).1 = 20 ∧ (ainr x2 (hS h0 (hR h57 x0 26)).2 = true ∧ (¬ (hR h57 x0 26) = 1 ∧ (∀ h71 : Hp, h71 = sI h57 (hR h57 x0 26) x2.toNatClampNeg ((hI h57 (hR h57 x0 26) x2.toNatClampNeg) + (1 : Int32)) → ((hS h0 (hR h71 x0 25)).1 = 20 ∧ (¬ (hR h71 x0 25) = 1 ∧ (ainr x2 (hS h0 (hR h71 x0 25)).2 = true ∧ (∀ h75 : Hp, h75 = sI h71 (hR h71 x0 25) x2.toNatClampNeg (3 : Int32) → K (1 : Int32) h75))))))))))))))) else ((hS h0 (hR h0 x0 27)).1 = 20 ∧ (ainr x2 (hS h0 (hR h0 x0 27)).2 = true ∧ (¬ (hR h0 x0 27) = 1 ∧ (∀ h79 : Hp, h79 = sI h0 (hR h0 x0 27) x2.toNatClampNeg ((((hI h0 (hR h0 x0 27) x2.toNatClampNeg) * (10 : Int32)) + x1) - (48 : Int32)) → ((hS h0 (hR h79 x0 25)).1 = 20 ∧ (ainr x2 (hS h0 (hR h79 x0 25)).2 = true ∧ (if (hI h79 (hR h79 x0 25) x2.toNatClampNeg) = (2 : Int32) then ((hS h0 (hR h79 x0 26)).1 = 20 ∧ (¬ (hR h79 x0 26) = 1 ∧ (ainr x2 (hS h0 (hR h79 x0 26)).2 = true ∧ (∀ h85 : Hp, h85 = sI h79 (hR h79 x0 26) x2.toNatClampNeg (1 : Int32) → ((hS h0 (hR h85 x0 25)).1 = 20 ∧ (¬ (hR h85 x0 25) = 1 ∧ (ainr x2 (hS h0 (hR h85 x0 25)).2 = true ∧ (∀ h89 : Hp, h89 = sI h85 (hR h85 x0 25) x2.toNatClampNeg (3 : Int32) → K (1 : Int32) h89)))))))) else ((hS h0 (hR h79 x0 26)).1 = 20 ∧ (ainr x2 (hS h0 (hR h79 x0 26)).2 = true ∧ (¬ (hR h79 x0 26) = 1 ∧ (∀ h93 : Hp, h93 = sI h79 (hR h79 x0 26) x2.toNatClampNeg ((hI h79 (hR h79 x0 26) x2.toNatClampNeg) + (1 : Int32)) → ((hS h0 (hR h93 x0 25)).1 = 20 ∧ (¬ (hR h93 x0 25) = 1 ∧ (ainr x2 (hS h0 (hR h93 x0 25)).2 = true ∧ (∀ h97 : Hp, h97 = sI h93 (hR h93 x0 25) x2.toNatClampNeg (3 : Int32) → K (1 : Int32) h97)))))))))))))))))))) : Wp (d + 1) m_Mo_inChoice 179 [some (.ref x0), some (.int x1), some (.int x2), y3, y4] [] h0 (QI K) := by
  refine V.aload_n d_Mo_inChoice_179 rfl ?_
  obtain ⟨g51, hq⟩ := hq
  refine V.get2 d_Mo_inChoice_180 rfl (List.mem_singleton.mpr g51) ?_
  refine V.iload_n d_Mo_inChoice_183 rfl ?_
  refine V.aload_n d_Mo_inChoice_184 rfl ?_
  refine V.get2 d_Mo_inChoice_185 rfl (List.mem_singleton.mpr g51) ?_
  refine V.iload_n d_Mo_inChoice_188 rfl ?_
  obtain ⟨g52, hq⟩ := hq
  obtain ⟨g53, hq⟩ := hq
  refine V.iaload d_Mo_inChoice_189 g52 g53 ?_
  refine V.iconst (x := 2) d_Mo_inChoice_190 (by decide) ?_
  refine V.ic_ne (t := 201) d_Mo_inChoice_191 ⟨rfl, rfl⟩ (fun hc => ?_) (fun hc => ?_)
  · replace hq := ifp hc hq
    refine V.iload_n d_Mo_inChoice_194 rfl ?_
    refine V.bipush (x := 48) d_Mo_inChoice_195 (by decide) ?_
    refine V.isub d_Mo_inChoice_197 ?_
    refine V.goto (t := 215) d_Mo_inChoice_198 ⟨rfl, rfl⟩ ?_
    obtain ⟨g54, hq⟩ := hq
    obtain ⟨g55, hq⟩ := hq
    obtain ⟨g56, hq⟩ := hq
    refine V.iastore d_Mo_inChoice_215 g54 g55 g56 ?_
    replace hq := hq _ rfl
    refine V.aload_n d_Mo_inChoice_216 rfl ?_
    refine V.get2 d_Mo_inChoice_217 rfl (List.mem_singleton.mpr g51) ?_
    refine V.iload_n d_Mo_inChoice_220 rfl ?_
    refine V.aload_n d_Mo_inChoice_221 rfl ?_
    refine V.get2 d_Mo_inChoice_222 rfl (List.mem_singleton.mpr g51) ?_
    refine V.iload_n d_Mo_inChoice_225 rfl ?_
    obtain ⟨g58, hq⟩ := hq
    obtain ⟨g59, hq⟩ := hq
    refine V.iaload d_Mo_inChoice_226 g58 g59 ?_
    refine V.iconst (x := 2) d_Mo_inChoice_227 (by decide) ?_
    refine V.ic_ne (t := 235) d_Mo_inChoice_228 ⟨rfl, rfl⟩ (fun hc => ?_) (fun hc => ?_)
    · replace hq := ifp hc hq
      refine V.iconst (x := 1) d_Mo_inChoice_231 (by decide) ?_
      refine V.goto (t := 243) d_Mo_inChoice_232 ⟨rfl, rfl⟩ ?_
      obtain ⟨g60, hq⟩ := hq
      obtain ⟨g61, hq⟩ := hq
      obtain ⟨g62, hq⟩ := hq
      refine V.iastore d_Mo_inChoice_243 g60 g61 g62 ?_
      replace hq := hq _ rfl
      refine V.aload_n d_Mo_inChoice_244 rfl ?_
      refine V.get2 d_Mo_inChoice_245 rfl (List.mem_singleton.mpr g51) ?_
      refine V.iload_n d_Mo_inChoice_248 rfl ?_
      refine V.iconst (x := 3) d_Mo_inChoice_249 (by decide) ?_
      obtain ⟨g64, hq⟩ := hq
      obtain ⟨g65, hq⟩ := hq
      obtain ⟨g66, hq⟩ := hq
      refine V.iastore d_Mo_inChoice_250 g64 g65 g66 ?_
      replace hq := hq _ rfl
      refine V.iconst (x := 1) d_Mo_inChoice_251 (by decide) ?_
      refine V.zret (y := (1 : Int32)) d_Mo_inChoice_252 rfl (by decide) ?_
      exact V.rI hq
    · replace hq := ifn hc hq
      refine V.aload_n d_Mo_inChoice_235 rfl ?_
      refine V.get2 d_Mo_inChoice_236 rfl (List.mem_singleton.mpr g51) ?_
      refine V.iload_n d_Mo_inChoice_239 rfl ?_
      obtain ⟨g68, hq⟩ := hq
      obtain ⟨g69, hq⟩ := hq
      refine V.iaload d_Mo_inChoice_240 g68 g69 ?_
      refine V.iconst (x := 1) d_Mo_inChoice_241 (by decide) ?_
      refine V.iadd d_Mo_inChoice_242 ?_
      obtain ⟨g70, hq⟩ := hq
      refine V.iastore d_Mo_inChoice_243 g68 g70 g69 ?_
      replace hq := hq _ rfl
      refine V.aload_n d_Mo_inChoice_244 rfl ?_
      refine V.get2 d_Mo_inChoice_245 rfl (List.mem_singleton.mpr g51) ?_
      refine V.iload_n d_Mo_inChoice_248 rfl ?_
      refine V.iconst (x := 3) d_Mo_inChoice_249 (by decide) ?_
      obtain ⟨g72, hq⟩ := hq
      obtain ⟨g73, hq⟩ := hq
      obtain ⟨g74, hq⟩ := hq
      refine V.iastore d_Mo_inChoice_250 g72 g73 g74 ?_
      replace hq := hq _ rfl
      refine V.iconst (x := 1) d_Mo_inChoice_251 (by decide) ?_
      refine V.zret (y := (1 : Int32)) d_Mo_inChoice_252 rfl (by decide) ?_
      exact V.rI hq
  · replace hq := ifn hc hq
    refine V.aload_n d_Mo_inChoice_201 rfl ?_
    refine V.get2 d_Mo_inChoice_202 rfl (List.mem_singleton.mpr g51) ?_
    refine V.iload_n d_Mo_inChoice_205 rfl ?_
    obtain ⟨g76, hq⟩ := hq
    obtain ⟨g77, hq⟩ := hq
    refine V.iaload d_Mo_inChoice_206 g76 g77 ?_
    refine V.bipush (x := 10) d_Mo_inChoice_207 (by decide) ?_
    refine V.imul d_Mo_inChoice_209 ?_
    refine V.iload_n d_Mo_inChoice_210 rfl ?_
    refine V.iadd d_Mo_inChoice_211 ?_
    refine V.bipush (x := 48) d_Mo_inChoice_212 (by decide) ?_
    refine V.isub d_Mo_inChoice_214 ?_
    obtain ⟨g78, hq⟩ := hq
    refine V.iastore d_Mo_inChoice_215 g76 g78 g77 ?_
    replace hq := hq _ rfl
    refine V.aload_n d_Mo_inChoice_216 rfl ?_
    refine V.get2 d_Mo_inChoice_217 rfl (List.mem_singleton.mpr g51) ?_
    refine V.iload_n d_Mo_inChoice_220 rfl ?_
    refine V.aload_n d_Mo_inChoice_221 rfl ?_
    refine V.get2 d_Mo_inChoice_222 rfl (List.mem_singleton.mpr g51) ?_
    refine V.iload_n d_Mo_inChoice_225 rfl ?_
    obtain ⟨g80, hq⟩ := hq
    obtain ⟨g81, hq⟩ := hq
    refine V.iaload d_Mo_inChoice_226 g80 g81 ?_
    refine V.iconst (x := 2) d_Mo_inChoice_227 (by decide) ?_
    refine V.ic_ne (t := 235) d_Mo_inChoice_228 ⟨rfl, rfl⟩ (fun hc => ?_) (fun hc => ?_)
    · replace hq := ifp hc hq
      refine V.iconst (x := 1) d_Mo_inChoice_231 (by decide) ?_
      refine V.goto (t := 243) d_Mo_inChoice_232 ⟨rfl, rfl⟩ ?_
      obtain ⟨g82, hq⟩ := hq
      obtain ⟨g83, hq⟩ := hq
      obtain ⟨g84, hq⟩ := hq
      refine V.iastore d_Mo_inChoice_243 g82 g83 g84 ?_
      replace hq := hq _ rfl
      refine V.aload_n d_Mo_inChoice_244 rfl ?_
      refine V.get2 d_Mo_inChoice_245 rfl (List.mem_singleton.mpr g51) ?_
      refine V.iload_n d_Mo_inChoice_248 rfl ?_
      refine V.iconst (x := 3) d_Mo_inChoice_249 (by decide) ?_
      obtain ⟨g86, hq⟩ := hq
      obtain ⟨g87, hq⟩ := hq
      obtain ⟨g88, hq⟩ := hq
      refine V.iastore d_Mo_inChoice_250 g86 g87 g88 ?_
      replace hq := hq _ rfl
      refine V.iconst (x := 1) d_Mo_inChoice_251 (by decide) ?_
      refine V.zret (y := (1 : Int32)) d_Mo_inChoice_252 rfl (by decide) ?_
      exact V.rI hq
    · replace hq := ifn hc hq
      refine V.aload_n d_Mo_inChoice_235 rfl ?_
      refine V.get2 d_Mo_inChoice_236 rfl (List.mem_singleton.mpr g51) ?_
      refine V.iload_n d_Mo_inChoice_239 rfl ?_
      obtain ⟨g90, hq⟩ := hq
      obtain ⟨g91, hq⟩ := hq
      refine V.iaload d_Mo_inChoice_240 g90 g91 ?_
      refine V.iconst (x := 1) d_Mo_inChoice_241 (by decide) ?_
      refine V.iadd d_Mo_inChoice_242 ?_
      obtain ⟨g92, hq⟩ := hq
      refine V.iastore d_Mo_inChoice_243 g90 g92 g91 ?_
      replace hq := hq _ rfl
      refine V.aload_n d_Mo_inChoice_244 rfl ?_
      refine V.get2 d_Mo_inChoice_245 rfl (List.mem_singleton.mpr g51) ?_
      refine V.iload_n d_Mo_inChoice_248 rfl ?_
      refine V.iconst (x := 3) d_Mo_inChoice_249 (by decide) ?_
      obtain ⟨g94, hq⟩ := hq
      obtain ⟨g95, hq⟩ := hq
      obtain ⟨g96, hq⟩ := hq
      refine V.iastore d_Mo_inChoice_250 g94 g95 g96 ?_
      replace hq := hq _ rfl
      refine V.iconst (x := 1) d_Mo_inChoice_251 (by decide) ?_
      refine V.zret (y := (1 : Int32)) d_Mo_inChoice_252 rfl (by decide) ?_
      exact V.rI hq
theorem w_Mo_inMany {d : Nat} {K : Int32 → Hp → Prop} {x0 : Nat} {x1 : Int32} {h0 : Hp} (hq :
  ((hS h0 x0).1 = 8 ∧ (∀ v2 : Int32, v2 = ((hI h0 x0 28) - (1 : Int32)) → ((hS h0 (hR h0 x0 25)).1 = 20 ∧ (ainr v2 (hS h0 (hR h0 x0 25)).2 = true ∧ (if (hI h0 (hR h0 x0 25) v2.toNatClampNeg) = (1 : Int32) then Ca d m_Mo_beginType [.ref x0, .int x1] h0 (QI (fun v5 h6 => K (v5 &&& 1) h6)) else ((hS h0 (hR h0 x0 24)).1 = 20 ∧ (ainr v2 (hS h0 (hR h0 x0 24)).2 = true ∧ ((hS h0 (hR h0 x0 16)).1 = 20 ∧ (¬ (hR h0 x0 16) = 1 ∧ (ainr (hI h0 (hR h0 x0 24) v2.toNatClampNeg) (hS h0 (hR h0 x0 16)).2 = true ∧ (∀ h13 : Hp, h13 = sI h0 (hR h0 x0 16) (hI h0 (hR h0 x0 24) v2.toNatClampNeg).toNatClampNeg (x1 - (97 : Int32)) → ((hS h0 (hR h13 x0 25)).1 = 20 ∧ (¬ (hR h13 x0 25) = 1 ∧ (ainr v2 (hS h0 (hR h13 x0 25)).2 = true ∧ (∀ h17 : Hp, h17 = sI h13 (hR h13 x0 25) v2.toNatClampNeg (1 : Int32) → Ca d m_Mo_isName [.ref x0, .int x1] h17 (QI (fun v18 h19 => K (v18 &&& 1) h19)))))))))))))))))) : Ca (d + 1) m_Mo_inMany [.ref x0, .int x1] h0 (QI K) := by
  show Wp _ _ 0 [some (.ref x0), some (.int x1), none] [] h0 _
  refine V.aload_n d_Mo_inMany_0 rfl ?_
  obtain ⟨g1, hq⟩ := hq
  refine V.get0 d_Mo_inMany_1 rfl (List.mem_singleton.mpr g1) ?_
  refine V.iconst (x := 1) d_Mo_inMany_4 (by decide) ?_
  refine V.isub d_Mo_inMany_5 ?_
  replace hq := hq _ rfl
  refine V.istore_n (l' := [_, _, _]) d_Mo_inMany_6 rfl (ltb rfl) ?_
  refine V.aload_n d_Mo_inMany_7 rfl ?_
  refine V.get2 d_Mo_inMany_8 rfl (List.mem_singleton.mpr g1) ?_
  refine V.iload_n d_Mo_inMany_11 rfl ?_
  obtain ⟨g3, hq⟩ := hq
  obtain ⟨g4, hq⟩ := hq
  refine V.iaload d_Mo_inMany_12 g3 g4 ?_
  refine V.iconst (x := 1) d_Mo_inMany_13 (by decide) ?_
  refine V.ic_ne (t := 23) d_Mo_inMany_14 ⟨rfl, rfl⟩ (fun hc => ?_) (fun hc => ?_)
  · replace hq := ifp hc hq
    refine V.aload_n d_Mo_inMany_17 rfl ?_
    refine V.iload_n d_Mo_inMany_18 rfl ?_
    refine V.callI d_Mo_inMany_19 (cV_call (t := [_]) (rs := []) rfl (Or.inl rfl) rfl (lk1 g1) ⟨leb rfl, leb rfl⟩) hq (fun v5 h6 hq => ?_)
    refine V.zret (y := _) d_Mo_inMany_22 rfl rfl ?_
    exact V.rI hq
  · replace hq := ifn hc hq
    refine V.aload_n d_Mo_inMany_23 rfl ?_
    refine V.get2 d_Mo_inMany_24 rfl (List.mem_singleton.mpr g1) ?_
    refine V.aload_n d_Mo_inMany_27 rfl ?_
    refine V.get2 d_Mo_inMany_28 rfl (List.mem_singleton.mpr g1) ?_
    refine V.iload_n d_Mo_inMany_31 rfl ?_
    obtain ⟨g8, hq⟩ := hq
    obtain ⟨g9, hq⟩ := hq
    refine V.iaload d_Mo_inMany_32 g8 g9 ?_
    refine V.iload_n d_Mo_inMany_33 rfl ?_
    refine V.bipush (x := 97) d_Mo_inMany_34 (by decide) ?_
    refine V.isub d_Mo_inMany_36 ?_
    obtain ⟨g10, hq⟩ := hq
    obtain ⟨g11, hq⟩ := hq
    obtain ⟨g12, hq⟩ := hq
    refine V.iastore d_Mo_inMany_37 g10 g11 g12 ?_
    replace hq := hq _ rfl
    refine V.aload_n d_Mo_inMany_38 rfl ?_
    refine V.get2 d_Mo_inMany_39 rfl (List.mem_singleton.mpr g1) ?_
    refine V.iload_n d_Mo_inMany_42 rfl ?_
    refine V.iconst (x := 1) d_Mo_inMany_43 (by decide) ?_
    obtain ⟨g14, hq⟩ := hq
    obtain ⟨g15, hq⟩ := hq
    obtain ⟨g16, hq⟩ := hq
    refine V.iastore d_Mo_inMany_44 g14 g15 g16 ?_
    replace hq := hq _ rfl
    refine V.aload_n d_Mo_inMany_45 rfl ?_
    refine V.iload_n d_Mo_inMany_46 rfl ?_
    refine V.callI d_Mo_inMany_47 (cV_call (t := [_]) (rs := []) rfl (Or.inl rfl) rfl (lk1 g1) ⟨leb rfl, leb rfl⟩) hq (fun v18 h19 hq => ?_)
    refine V.zret (y := _) d_Mo_inMany_50 rfl rfl ?_
    exact V.rI hq
theorem w_Mo_sign {d : Nat} {K : Int32 → Hp → Prop} {x0 : Nat} {x1 : Int32} {h0 : Hp} (hq :
  ((hS h0 x0).1 = 8 ∧ (if (hI h0 x0 23) = 0 then Ca d m_Mo_beginType [.ref x0, .int x1] h0 (QI (fun v2 h3 => K (v2 &&& 1) h3)) else (if 0 < (hI h0 x0 28) then ((hS h0 (hR h0 x0 24)).1 = 20 ∧ (ainr ((hI h0 x0 28) - (1 : Int32)) (hS h0 (hR h0 x0 24)).2 = true ∧ ((hS h0 (hR h0 x0 12)).1 = 20 ∧ (ainr (hI h0 (hR h0 x0 24) ((hI h0 x0 28) - (1 : Int32)).toNatClampNeg) (hS h0 (hR h0 x0 12)).2 = true ∧ Ca d m_Mo_sized [.ref x0, .int (hI h0 (hR h0 x0 12) (hI h0 (hR h0 x0 24) ((hI h0 x0 28) - (1 : Int32)).toNatClampNeg).toNatClampNeg)] h0 (QI (fun v9 h10 => (if v9 = 0 then Wp (d + 1) m_Mo_sign 65 [some (.ref x0), some (.int x1), none] [] h10 (QI K) else ((hS h10 x0).1 = 8 ∧ Ca d m_Mo_inSized [.ref x0, .int x1] h10 (QI (fun v13 h14 => (if v13 < (2 : Int32) then (if v13 = (1 : Int32) then K (1 : Int32) h14 else K (0 : Int32) h14) else Wp (d + 1) m_Mo_sign 65 [some (.ref x0), some (.int x1), some (.int v13)] [] h14 (QI K)))))))))))) else Wp (d + 1) m_Mo_sign 65 [some (.ref x0), some (.int x1), none] [] h0 (QI K))))) : Ca (d + 1) m_Mo_sign [.ref x0, .int x1] h0 (QI K) := by
  show Wp _ _ 0 [some (.ref x0), some (.int x1), none] [] h0 _
  refine V.aload_n d_Mo_sign_0 rfl ?_
  obtain ⟨g1, hq⟩ := hq
  refine V.get0 d_Mo_sign_1 rfl (List.mem_singleton.mpr g1) ?_
  refine V.if_ne (t := 13) d_Mo_sign_4 ⟨rfl, rfl⟩ (fun hc => ?_) (fun hc => ?_)
  · replace hq := ifp hc hq
    refine V.aload_n d_Mo_sign_7 rfl ?_
    refine V.iload_n d_Mo_sign_8 rfl ?_
    refine V.callI d_Mo_sign_9 (cV_call (t := [_]) (rs := []) rfl (Or.inl rfl) rfl (lk1 g1) ⟨leb rfl, leb rfl⟩) hq (fun v2 h3 hq => ?_)
    refine V.zret (y := _) d_Mo_sign_12 rfl rfl ?_
    exact V.rI hq
  · replace hq := ifn hc hq
    refine V.aload_n d_Mo_sign_13 rfl ?_
    refine V.get0 d_Mo_sign_14 rfl (List.mem_singleton.mpr g1) ?_
    refine V.if_le (t := 65) d_Mo_sign_17 ⟨rfl, rfl⟩ (fun hc => ?_) (fun hc => ?_)
    · replace hq := ifp hc hq
      refine V.aload_n d_Mo_sign_20 rfl ?_
      refine V.aload_n d_Mo_sign_21 rfl ?_
      refine V.get2 d_Mo_sign_22 rfl (List.mem_singleton.mpr g1) ?_
      refine V.aload_n d_Mo_sign_25 rfl ?_
      refine V.get2 d_Mo_sign_26 rfl (List.mem_singleton.mpr g1) ?_
      refine V.aload_n d_Mo_sign_29 rfl ?_
      refine V.get0 d_Mo_sign_30 rfl (List.mem_singleton.mpr g1) ?_
      refine V.iconst (x := 1) d_Mo_sign_33 (by decide) ?_
      refine V.isub d_Mo_sign_34 ?_
      obtain ⟨g5, hq⟩ := hq
      obtain ⟨g6, hq⟩ := hq
      refine V.iaload d_Mo_sign_35 g5 g6 ?_
      obtain ⟨g7, hq⟩ := hq
      obtain ⟨g8, hq⟩ := hq
      refine V.iaload d_Mo_sign_36 g7 g8 ?_
      refine V.callI d_Mo_sign_37 (cV_call (t := [_]) (rs := []) rfl (Or.inl rfl) rfl (lk1 g1) ⟨leb rfl, leb rfl⟩) hq (fun v9 h10 hq => ?_)
      refine V.if_eq (t := 65) d_Mo_sign_40 ⟨rfl, rfl⟩ (fun hc => ?_) (fun hc => ?_)
      · replace hq := ifp hc hq
        exact hq
      · replace hq := ifn hc hq
        refine V.aload_n d_Mo_sign_43 rfl ?_
        refine V.iload_n d_Mo_sign_44 rfl ?_
        obtain ⟨g12, hq⟩ := hq
        refine V.callI d_Mo_sign_45 (cV_call (t := [_]) (rs := []) rfl (Or.inl rfl) rfl (lk1 g12) ⟨leb rfl, leb rfl⟩) hq (fun v13 h14 hq => ?_)
        refine V.istore_n (l' := [_, _, _]) d_Mo_sign_48 rfl (ltb rfl) ?_
        refine V.iload_n d_Mo_sign_49 rfl ?_
        refine V.iconst (x := 2) d_Mo_sign_50 (by decide) ?_
        refine V.ic_ge (t := 65) d_Mo_sign_51 ⟨rfl, rfl⟩ (fun hc => ?_) (fun hc => ?_)
        · replace hq := ifp hc hq
          refine V.iload_n d_Mo_sign_54 rfl ?_
          refine V.iconst (x := 1) d_Mo_sign_55 (by decide) ?_
          refine V.ic_ne (t := 63) d_Mo_sign_56 ⟨rfl, rfl⟩ (fun hc => ?_) (fun hc => ?_)
          · replace hq := ifp hc hq
            refine V.iconst (x := 1) d_Mo_sign_59 (by decide) ?_
            refine V.goto (t := 64) d_Mo_sign_60 ⟨rfl, rfl⟩ ?_
            refine V.zret (y := (1 : Int32)) d_Mo_sign_64 rfl (by decide) ?_
            exact V.rI hq
          · replace hq := ifn hc hq
            refine V.iconst (x := 0) d_Mo_sign_63 (by decide) ?_
            refine V.zret (y := (0 : Int32)) d_Mo_sign_64 rfl (by decide) ?_
            exact V.rI hq
        · replace hq := ifn hc hq
          exact hq
    · replace hq := ifn hc hq
      exact hq
theorem w_Mo_sign_65 {d : Nat} {K : Int32 → Hp → Prop} {x0 : Nat} {x1 : Int32} {y2 : Option Value} {h0 : Hp} (hq :
  ((hS h0 x0).1 = 8 ∧ (if (hI h0 x0 28) = 0 then K (0 : Int32) h0 else ((hS h0 (hR h0 x0 24)).1 = 20 ∧ (ainr ((hI h0 x0 28) - (1 : Int32)) (hS h0 (hR h0 x0 24)).2 = true ∧ ((hS h0 (hR h0 x0 12)).1 = 20 ∧ (ainr (hI h0 (hR h0 x0 24) ((hI h0 x0 28) - (1 : Int32)).toNatClampNeg) (hS h0 (hR h0 x0 12)).2 = true ∧ (∀ v21 : Int32, v21 = (hI h0 (hR h0 x0 12) (hI h0 (hR h0 x0 24) ((hI h0 x0 28) - (1 : Int32)).toNatClampNeg).toNatClampNeg) → (if v21 = (123 : Int32) then Ca d m_Mo_inStructure [.ref x0, .int x1] h0 (QI (fun v22 h23 => K (v22 &&& 1) h23)) else (if v21 = (63 : Int32) then Ca d m_Mo_inChoice [.ref x0, .int x1] h0 (QI (fun v25 h26 => K (v25 &&& 1) h26)) else Ca d m_Mo_inMany [.ref x0, .int x1] h0 (QI (fun v28 h29 => K (v28 &&& 1) h29)))))))))))) : Wp (d + 1) m_Mo_sign 65 [some (.ref x0), some (.int x1), y2] [] h0 (QI K) := by
  refine V.aload_n d_Mo_sign_65 rfl ?_
  obtain ⟨g16, hq⟩ := hq
  refine V.get0 d_Mo_sign_66 rfl (List.mem_singleton.mpr g16) ?_
  refine V.if_ne (t := 74) d_Mo_sign_69 ⟨rfl, rfl⟩ (fun hc => ?_) (fun hc => ?_)
  · replace hq := ifp hc hq
    refine V.iconst (x := 0) d_Mo_sign_72 (by decide) ?_
    refine V.zret (y := (0 : Int32)) d_Mo_sign_73 rfl (by decide) ?_
    exact V.rI hq
  · replace hq := ifn hc hq
    refine V.aload_n d_Mo_sign_74 rfl ?_
    refine V.get2 d_Mo_sign_75 rfl (List.mem_singleton.mpr g16) ?_
    refine V.aload_n d_Mo_sign_78 rfl ?_
    refine V.get2 d_Mo_sign_79 rfl (List.mem_singleton.mpr g16) ?_
    refine V.aload_n d_Mo_sign_82 rfl ?_
    refine V.get0 d_Mo_sign_83 rfl (List.mem_singleton.mpr g16) ?_
    refine V.iconst (x := 1) d_Mo_sign_86 (by decide) ?_
    refine V.isub d_Mo_sign_87 ?_
    obtain ⟨g17, hq⟩ := hq
    obtain ⟨g18, hq⟩ := hq
    refine V.iaload d_Mo_sign_88 g17 g18 ?_
    obtain ⟨g19, hq⟩ := hq
    obtain ⟨g20, hq⟩ := hq
    refine V.iaload d_Mo_sign_89 g19 g20 ?_
    replace hq := hq _ rfl
    refine V.istore_n (l' := [_, _, _]) d_Mo_sign_90 rfl (ltb rfl) ?_
    refine V.iload_n d_Mo_sign_91 rfl ?_
    refine V.bipush (x := 123) d_Mo_sign_92 (by decide) ?_
    refine V.ic_ne (t := 105) d_Mo_sign_94 ⟨rfl, rfl⟩ (fun hc => ?_) (fun hc => ?_)
    · replace hq := ifp hc hq
      refine V.aload_n d_Mo_sign_97 rfl ?_
      refine V.iload_n d_Mo_sign_98 rfl ?_
      refine V.callI d_Mo_sign_99 (cV_call (t := [_]) (rs := []) rfl (Or.inl rfl) rfl (lk1 g16) ⟨leb rfl, leb rfl⟩) hq (fun v22 h23 hq => ?_)
      refine V.goto (t := 124) d_Mo_sign_102 ⟨rfl, rfl⟩ ?_
      refine V.zret (y := _) d_Mo_sign_124 rfl rfl ?_
      exact V.rI hq
    · replace hq := ifn hc hq
      refine V.iload_n d_Mo_sign_105 rfl ?_
      refine V.bipush (x := 63) d_Mo_sign_106 (by decide) ?_
      refine V.ic_ne (t := 119) d_Mo_sign_108 ⟨rfl, rfl⟩ (fun hc => ?_) (fun hc => ?_)
      · replace hq := ifp hc hq
        refine V.aload_n d_Mo_sign_111 rfl ?_
        refine V.iload_n d_Mo_sign_112 rfl ?_
        refine V.callI d_Mo_sign_113 (cV_call (t := [_]) (rs := []) rfl (Or.inl rfl) rfl (lk1 g16) ⟨leb rfl, leb rfl⟩) hq (fun v25 h26 hq => ?_)
        refine V.goto (t := 124) d_Mo_sign_116 ⟨rfl, rfl⟩ ?_
        refine V.zret (y := _) d_Mo_sign_124 rfl rfl ?_
        exact V.rI hq
      · replace hq := ifn hc hq
        refine V.aload_n d_Mo_sign_119 rfl ?_
        refine V.iload_n d_Mo_sign_120 rfl ?_
        refine V.callI d_Mo_sign_121 (cV_call (t := [_]) (rs := []) rfl (Or.inl rfl) rfl (lk1 g16) ⟨leb rfl, leb rfl⟩) hq (fun v28 h29 hq => ?_)
        refine V.zret (y := _) d_Mo_sign_124 rfl rfl ?_
        exact V.rI hq
theorem w_Mo_wholeNow {d : Nat} {K : Int32 → Hp → Prop} {x0 : Nat} {h0 : Hp} (hq :
  ((hS h0 x0).1 = 8 ∧ (if (hI h0 x0 23) = 0 then K (0 : Int32) h0 else (if (hI h0 x0 28) = 0 then K (1 : Int32) h0 else ((hS h0 (hR h0 x0 24)).1 = 20 ∧ (ainr ((hI h0 x0 28) - (1 : Int32)) (hS h0 (hR h0 x0 24)).2 = true ∧ ((hS h0 (hR h0 x0 12)).1 = 20 ∧ (ainr (hI h0 (hR h0 x0 24) ((hI h0 x0 28) - (1 : Int32)).toNatClampNeg) (hS h0 (hR h0 x0 12)).2 = true ∧ Ca d m_Mo_sized [.ref x0, .int (hI h0 (hR h0 x0 12) (hI h0 (hR h0 x0 24) ((hI h0 x0 28) - (1 : Int32)).toNatClampNeg).toNatClampNeg)] h0 (QI (fun v6 h7 => (if v6 = 0 then K (0 : Int32) h7 else ((hS h7 x0).1 = 8 ∧ ((hS h7 (hR h7 x0 25)).1 = 20 ∧ (ainr ((hI h7 x0 28) - (1 : Int32)) (hS h7 (hR h7 x0 25)).2 = true ∧ (if (hI h7 (hR h7 x0 25) ((hI h7 x0 28) - (1 : Int32)).toNatClampNeg) = (1 : Int32) then Wp (d + 1) m_Mo_wholeNow 75 [some (.ref x0), some (.int (0 : Int32))] [] h7 (QI K) else (if (hI h7 (hR h7 x0 25) ((hI h7 x0 28) - (1 : Int32)).toNatClampNeg) = (3 : Int32) then Wp (d + 1) m_Mo_wholeNow 75 [some (.ref x0), some (.int (0 : Int32))] [] h7 (QI K) else K (0 : Int32) h7)))))))))))))))) : Ca (d + 1) m_Mo_wholeNow [.ref x0] h0 (QI K) := by
  show Wp _ _ 0 [some (.ref x0), none] [] h0 _
  refine V.aload_n d_Mo_wholeNow_0 rfl ?_
  obtain ⟨g1, hq⟩ := hq
  refine V.get0 d_Mo_wholeNow_1 rfl (List.mem_singleton.mpr g1) ?_
  refine V.if_ne (t := 9) d_Mo_wholeNow_4 ⟨rfl, rfl⟩ (fun hc => ?_) (fun hc => ?_)
  · replace hq := ifp hc hq
    refine V.iconst (x := 0) d_Mo_wholeNow_7 (by decide) ?_
    refine V.zret (y := (0 : Int32)) d_Mo_wholeNow_8 rfl (by decide) ?_
    exact V.rI hq
  · replace hq := ifn hc hq
    refine V.aload_n d_Mo_wholeNow_9 rfl ?_
    refine V.get0 d_Mo_wholeNow_10 rfl (List.mem_singleton.mpr g1) ?_
    refine V.if_ne (t := 18) d_Mo_wholeNow_13 ⟨rfl, rfl⟩ (fun hc => ?_) (fun hc => ?_)
    · replace hq := ifp hc hq
      refine V.iconst (x := 1) d_Mo_wholeNow_16 (by decide) ?_
      refine V.zret (y := (1 : Int32)) d_Mo_wholeNow_17 rfl (by decide) ?_
      exact V.rI hq
    · replace hq := ifn hc hq
      refine V.aload_n d_Mo_wholeNow_18 rfl ?_
      refine V.aload_n d_Mo_wholeNow_19 rfl ?_
      refine V.get2 d_Mo_wholeNow_20 rfl (List.mem_singleton.mpr g1) ?_
      refine V.aload_n d_Mo_wholeNow_23 rfl ?_
      refine V.get2 d_Mo_wholeNow_24 rfl (List.mem_singleton.mpr g1) ?_
      refine V.aload_n d_Mo_wholeNow_27 rfl ?_
      refine V.get0 d_Mo_wholeNow_28 rfl (List.mem_singleton.mpr g1) ?_
      refine V.iconst (x := 1) d_Mo_wholeNow_31 (by decide) ?_
      refine V.isub d_Mo_wholeNow_32 ?_
      obtain ⟨g2, hq⟩ := hq
      obtain ⟨g3, hq⟩ := hq
      refine V.iaload d_Mo_wholeNow_33 g2 g3 ?_
      obtain ⟨g4, hq⟩ := hq
      obtain ⟨g5, hq⟩ := hq
      refine V.iaload d_Mo_wholeNow_34 g4 g5 ?_
      refine V.callI d_Mo_wholeNow_35 (cV_call (t := [_]) (rs := []) rfl (Or.inl rfl) rfl (lk1 g1) ⟨leb rfl, leb rfl⟩) hq (fun v6 h7 hq => ?_)
      refine V.if_eq (t := 71) d_Mo_wholeNow_38 ⟨rfl, rfl⟩ (fun hc => ?_) (fun hc => ?_)
      · replace hq := ifp hc hq
        refine V.iconst (x := 0) d_Mo_wholeNow_71 (by decide) ?_
        refine V.zret (y := (0 : Int32)) d_Mo_wholeNow_72 rfl (by decide) ?_
        exact V.rI hq
      · replace hq := ifn hc hq
        refine V.aload_n d_Mo_wholeNow_41 rfl ?_
        obtain ⟨g9, hq⟩ := hq
        refine V.get2 d_Mo_wholeNow_42 rfl (List.mem_singleton.mpr g9) ?_
        refine V.aload_n d_Mo_wholeNow_45 rfl ?_
        refine V.get0 d_Mo_wholeNow_46 rfl (List.mem_singleton.mpr g9) ?_
        refine V.iconst (x := 1) d_Mo_wholeNow_49 (by decide) ?_
        refine V.isub d_Mo_wholeNow_50 ?_
        obtain ⟨g10, hq⟩ := hq
        obtain ⟨g11, hq⟩ := hq
        refine V.iaload d_Mo_wholeNow_51 g10 g11 ?_
        refine V.iconst (x := 1) d_Mo_wholeNow_52 (by decide) ?_
        refine V.ic_eq (t := 73) d_Mo_wholeNow_53 ⟨rfl, rfl⟩ (fun hc => ?_) (fun hc => ?_)
        · replace hq := ifp hc hq
          refine V.iconst (x := 0) d_Mo_wholeNow_73 (by decide) ?_
          refine V.istore_n (l' := [_, _]) d_Mo_wholeNow_74 rfl (ltb rfl) ?_
          exact hq
        · replace hq := ifn hc hq
          refine V.aload_n d_Mo_wholeNow_56 rfl ?_
          refine V.get2 d_Mo_wholeNow_57 rfl (List.mem_singleton.mpr g9) ?_
          refine V.aload_n d_Mo_wholeNow_60 rfl ?_
          refine V.get0 d_Mo_wholeNow_61 rfl (List.mem_singleton.mpr g9) ?_
          refine V.iconst (x := 1) d_Mo_wholeNow_64 (by decide) ?_
          refine V.isub d_Mo_wholeNow_65 ?_
          refine V.iaload d_Mo_wholeNow_66 g10 g11 ?_
          refine V.iconst (x := 3) d_Mo_wholeNow_67 (by decide) ?_
          refine V.ic_eq (t := 73) d_Mo_wholeNow_68 ⟨rfl, rfl⟩ (fun hc => ?_) (fun hc => ?_)
          · replace hq := ifp hc hq
            refine V.iconst (x := 0) d_Mo_wholeNow_73 (by decide) ?_
            refine V.istore_n (l' := [_, _]) d_Mo_wholeNow_74 rfl (ltb rfl) ?_
            exact hq
          · replace hq := ifn hc hq
            refine V.iconst (x := 0) d_Mo_wholeNow_71 (by decide) ?_
            refine V.zret (y := (0 : Int32)) d_Mo_wholeNow_72 rfl (by decide) ?_
            exact V.rI hq
theorem w_Mo_wholeNow_75 {d : Nat} {K : Int32 → Hp → Prop} {x0 : Nat} {x1 : Int32} {h0 : Hp} (hq :
  ((hS h0 x0).1 = 8 ∧ (if x1 < ((hI h0 x0 28) - (1 : Int32)) then ((hS h0 (hR h0 x0 24)).1 = 20 ∧ (ainr x1 (hS h0 (hR h0 x0 24)).2 = true ∧ ((hS h0 (hR h0 x0 12)).1 = 20 ∧ (ainr (hI h0 (hR h0 x0 24) x1.toNatClampNeg) (hS h0 (hR h0 x0 12)).2 = true ∧ (if (hI h0 (hR h0 x0 12) (hI h0 (hR h0 x0 24) x1.toNatClampNeg).toNatClampNeg) = (42 : Int32) then (∀ v17 : Int32, v17 = (x1 + 1) → Wp (d + 1) m_Mo_wholeNow 75 [some (.ref x0), some (.int v17)] [] h0 (QI K)) else (if (hI h0 (hR h0 x0 12) (hI h0 (hR h0 x0 24) x1.toNatClampNeg).toNatClampNeg) = (47 : Int32) then (∀ v18 : Int32, v18 = (x1 + 1) → Wp (d + 1) m_Mo_wholeNow 75 [some (.ref x0), some (.int v18)] [] h0 (QI K)) else K (0 : Int32) h0)))))) else K (1 : Int32) h0))) : Wp (d + 1) m_Mo_wholeNow 75 [some (.ref x0), some (.int x1)] [] h0 (QI K) := by
  refine V.iload_n d_Mo_wholeNow_75 rfl ?_
  refine V.aload_n d_Mo_wholeNow_76 rfl ?_
  obtain ⟨g12, hq⟩ := hq
  refine V.get0 d_Mo_wholeNow_77 rfl (List.mem_singleton.mpr g12) ?_
  refine V.iconst (x := 1) d_Mo_wholeNow_80 (by decide) ?_
  refine V.isub d_Mo_wholeNow_81 ?_
  refine V.ic_ge (t := 125) d_Mo_wholeNow_82 ⟨rfl, rfl⟩ (fun hc => ?_) (fun hc => ?_)
  · replace hq := ifp hc hq
    refine V.aload_n d_Mo_wholeNow_85 rfl ?_
    refine V.get2 d_Mo_wholeNow_86 rfl (List.mem_singleton.mpr g12) ?_
    refine V.aload_n d_Mo_wholeNow_89 rfl ?_
    refine V.get2 d_Mo_wholeNow_90 rfl (List.mem_singleton.mpr g12) ?_
    refine V.iload_n d_Mo_wholeNow_93 rfl ?_
    obtain ⟨g13, hq⟩ := hq
    obtain ⟨g14, hq⟩ := hq
    refine V.iaload d_Mo_wholeNow_94 g13 g14 ?_
    obtain ⟨g15, hq⟩ := hq
    obtain ⟨g16, hq⟩ := hq
    refine V.iaload d_Mo_wholeNow_95 g15 g16 ?_
    refine V.bipush (x := 42) d_Mo_wholeNow_96 (by decide) ?_
    refine V.ic_eq (t := 119) d_Mo_wholeNow_98 ⟨rfl, rfl⟩ (fun hc => ?_) (fun hc => ?_)
    · replace hq := ifp hc hq
      replace hq := hq _ rfl
      refine V.iinc (l' := [_, _]) d_Mo_wholeNow_119 rfl (show _ + _ = _ + (1 : Int32) from rfl) rfl ?_
      refine V.goto (t := 75) d_Mo_wholeNow_122 ⟨rfl, rfl⟩ ?_
      exact hq
    · replace hq := ifn hc hq
      refine V.aload_n d_Mo_wholeNow_101 rfl ?_
      refine V.get2 d_Mo_wholeNow_102 rfl (List.mem_singleton.mpr g12) ?_
      refine V.aload_n d_Mo_wholeNow_105 rfl ?_
      refine V.get2 d_Mo_wholeNow_106 rfl (List.mem_singleton.mpr g12) ?_
      refine V.iload_n d_Mo_wholeNow_109 rfl ?_
      refine V.iaload d_Mo_wholeNow_110 g13 g14 ?_
      refine V.iaload d_Mo_wholeNow_111 g15 g16 ?_
      refine V.bipush (x := 47) d_Mo_wholeNow_112 (by decide) ?_
      refine V.ic_eq (t := 119) d_Mo_wholeNow_114 ⟨rfl, rfl⟩ (fun hc => ?_) (fun hc => ?_)
      · replace hq := ifp hc hq
        replace hq := hq _ rfl
        refine V.iinc (l' := [_, _]) d_Mo_wholeNow_119 rfl (show _ + _ = _ + (1 : Int32) from rfl) rfl ?_
        refine V.goto (t := 75) d_Mo_wholeNow_122 ⟨rfl, rfl⟩ ?_
        exact hq
      · replace hq := ifn hc hq
        refine V.iconst (x := 0) d_Mo_wholeNow_117 (by decide) ?_
        refine V.zret (y := (0 : Int32)) d_Mo_wholeNow_118 rfl (by decide) ?_
        exact V.rI hq
  · replace hq := ifn hc hq
    refine V.iconst (x := 1) d_Mo_wholeNow_125 (by decide) ?_
    refine V.zret (y := (1 : Int32)) d_Mo_wholeNow_126 rfl (by decide) ?_
    exact V.rI hq
theorem w_Mo_scan {d : Nat} {K : Int32 → Hp → Prop} {x0 : Nat} {x1 : Int32} {h0 : Hp} (hq :
  ((hS h0 x0).1 = 8 ∧ (∀ h2 : Hp, h2 = sI h0 x0 23 (0 : Int32) → (∀ h3 : Hp, h3 = sI h2 x0 28 (0 : Int32) → (if x1 = 0 then (∀ v4 : Int32, v4 = (hI h3 x0 2) → Wp (d + 1) m_Mo_scan 28 [some (.ref x0), some (.int x1), some (.int v4), some (.int (0 : Int32))] [] h3 (QI K)) else (∀ v5 : Int32, v5 = (hI h3 x0 4) → Wp (d + 1) m_Mo_scan 28 [some (.ref x0), some (.int x1), some (.int v5), some (.int (0 : Int32))] [] h3 (QI K))))))) : Ca (d + 1) m_Mo_scan [.ref x0, .int x1] h0 (QI K) := by
  show Wp _ _ 0 [some (.ref x0), some (.int x1), none, none] [] h0 _
  refine V.aload_n d_Mo_scan_0 rfl ?_
  refine V.iconst (x := 0) d_Mo_scan_1 (by decide) ?_
  obtain ⟨g1, hq⟩ := hq
  refine V.put0 d_Mo_scan_2 rfl (Or.inl rfl) (List.mem_singleton.mpr g1) ?_
  replace hq := hq _ rfl
  refine V.aload_n d_Mo_scan_5 rfl ?_
  refine V.iconst (x := 0) d_Mo_scan_6 (by decide) ?_
  refine V.put0 d_Mo_scan_7 rfl (Or.inl rfl) (List.mem_singleton.mpr g1) ?_
  replace hq := hq _ rfl
  refine V.iload_n d_Mo_scan_10 rfl ?_
  refine V.if_eq (t := 21) d_Mo_scan_11 ⟨rfl, rfl⟩ (fun hc => ?_) (fun hc => ?_)
  · replace hq := ifp hc hq
    refine V.aload_n d_Mo_scan_21 rfl ?_
    refine V.get0 d_Mo_scan_22 rfl (List.mem_singleton.mpr g1) ?_
    replace hq := hq _ rfl
    refine V.istore_n (l' := [_, _, _, _]) d_Mo_scan_25 rfl (ltb rfl) ?_
    refine V.iconst (x := 0) d_Mo_scan_26 (by decide) ?_
    refine V.istore_n (l' := [_, _, _, _]) d_Mo_scan_27 rfl (ltb rfl) ?_
    exact hq
  · replace hq := ifn hc hq
    refine V.aload_n d_Mo_scan_14 rfl ?_
    refine V.get0 d_Mo_scan_15 rfl (List.mem_singleton.mpr g1) ?_
    refine V.goto (t := 25) d_Mo_scan_18 ⟨rfl, rfl⟩ ?_
    replace hq := hq _ rfl
    refine V.istore_n (l' := [_, _, _, _]) d_Mo_scan_25 rfl (ltb rfl) ?_
    refine V.iconst (x := 0) d_Mo_scan_26 (by decide) ?_
    refine V.istore_n (l' := [_, _, _, _]) d_Mo_scan_27 rfl (ltb rfl) ?_
    exact hq
theorem w_Mo_scan_28 {d : Nat} {K : Int32 → Hp → Prop} {x0 : Nat} {x1 : Int32} {x2 : Int32} {x3 : Int32} {h0 : Hp} (hq :
  (if x3 < x2 then (if x1 = 0 then ((hS h0 x0).1 = 8 ∧ ((hS h0 (hR h0 x0 1)).1 = 20 ∧ (ainr x3 (hS h0 (hR h0 x0 1)).2 = true ∧ Ca d m_Mo_sign [.ref x0, .int (hI h0 (hR h0 x0 1) x3.toNatClampNeg)] h0 (QI (fun v9 h10 => (if v9 = 0 then K x3 h10 else (∀ v12 : Int32, v12 = (x3 + 1) → Wp (d + 1) m_Mo_scan 28 [some (.ref x0), some (.int x1), some (.int x2), some (.int v12)] [] h10 (QI K)))))))) else ((hS h0 x0).1 = 8 ∧ ((hS h0 (hR h0 x0 3)).1 = 20 ∧ (ainr x3 (hS h0 (hR h0 x0 3)).2 = true ∧ Ca d m_Mo_sign [.ref x0, .int (hI h0 (hR h0 x0 3) x3.toNatClampNeg)] h0 (QI (fun v16 h17 => (if v16 = 0 then K x3 h17 else (∀ v19 : Int32, v19 = (x3 + 1) → Wp (d + 1) m_Mo_scan 28 [some (.ref x0), some (.int x1), some (.int x2), some (.int v19)] [] h17 (QI K))))))))) else ((hS h0 x0).1 = 8 ∧ Ca d m_Mo_wholeNow [.ref x0] h0 (QI (fun v21 h22 => (if v21 = 0 then K x2 h22 else K (-2 : Int32) h22)))))) : Wp (d + 1) m_Mo_scan 28 [some (.ref x0), some (.int x1), some (.int x2), some (.int x3)] [] h0 (QI K) := by
  refine V.iload_n d_Mo_scan_28 rfl ?_
  refine V.iload_n d_Mo_scan_29 rfl ?_
  refine V.ic_ge (t := 67) d_Mo_scan_30 ⟨rfl, rfl⟩ (fun hc => ?_) (fun hc => ?_)
  · replace hq := ifp hc hq
    refine V.aload_n d_Mo_scan_33 rfl ?_
    refine V.iload_n d_Mo_scan_34 rfl ?_
    refine V.if_eq (t := 47) d_Mo_scan_35 ⟨rfl, rfl⟩ (fun hc => ?_) (fun hc => ?_)
    · replace hq := ifp hc hq
      refine V.aload_n d_Mo_scan_47 rfl ?_
      obtain ⟨g6, hq⟩ := hq
      refine V.get2 d_Mo_scan_48 rfl (List.mem_singleton.mpr g6) ?_
      refine V.iload_n d_Mo_scan_51 rfl ?_
      obtain ⟨g7, hq⟩ := hq
      obtain ⟨g8, hq⟩ := hq
      refine V.iaload d_Mo_scan_52 g7 g8 ?_
      refine V.callI d_Mo_scan_53 (cV_call (t := [_]) (rs := []) rfl (Or.inl rfl) rfl (lk1 g6) ⟨leb rfl, leb rfl⟩) hq (fun v9 h10 hq => ?_)
      refine V.if_ne (t := 61) d_Mo_scan_56 ⟨rfl, rfl⟩ (fun hc => ?_) (fun hc => ?_)
      · replace hq := ifp hc hq
        refine V.iload_n d_Mo_scan_59 rfl ?_
        refine V.iret d_Mo_scan_60 rfl ?_
        exact V.rI hq
      · replace hq := ifn hc hq
        replace hq := hq _ rfl
        refine V.iinc (l' := [_, _, _, _]) d_Mo_scan_61 rfl (show _ + _ = _ + (1 : Int32) from rfl) rfl ?_
        refine V.goto (t := 28) d_Mo_scan_64 ⟨rfl, rfl⟩ ?_
        exact hq
    · replace hq := ifn hc hq
      refine V.aload_n d_Mo_scan_38 rfl ?_
      obtain ⟨g13, hq⟩ := hq
      refine V.get2 d_Mo_scan_39 rfl (List.mem_singleton.mpr g13) ?_
      refine V.iload_n d_Mo_scan_42 rfl ?_
      obtain ⟨g14, hq⟩ := hq
      obtain ⟨g15, hq⟩ := hq
      refine V.iaload d_Mo_scan_43 g14 g15 ?_
      refine V.goto (t := 53) d_Mo_scan_44 ⟨rfl, rfl⟩ ?_
      refine V.callI d_Mo_scan_53 (cV_call (t := [_]) (rs := []) rfl (Or.inl rfl) rfl (lk1 g13) ⟨leb rfl, leb rfl⟩) hq (fun v16 h17 hq => ?_)
      refine V.if_ne (t := 61) d_Mo_scan_56 ⟨rfl, rfl⟩ (fun hc => ?_) (fun hc => ?_)
      · replace hq := ifp hc hq
        refine V.iload_n d_Mo_scan_59 rfl ?_
        refine V.iret d_Mo_scan_60 rfl ?_
        exact V.rI hq
      · replace hq := ifn hc hq
        replace hq := hq _ rfl
        refine V.iinc (l' := [_, _, _, _]) d_Mo_scan_61 rfl (show _ + _ = _ + (1 : Int32) from rfl) rfl ?_
        refine V.goto (t := 28) d_Mo_scan_64 ⟨rfl, rfl⟩ ?_
        exact hq
  · replace hq := ifn hc hq
    refine V.aload_n d_Mo_scan_67 rfl ?_
    obtain ⟨g20, hq⟩ := hq
    refine V.callI d_Mo_scan_68 (cV_call (t := []) (rs := []) rfl (Or.inl rfl) rfl (lk1 g20) ⟨leb rfl, leb rfl⟩) hq (fun v21 h22 hq => ?_)
    refine V.if_eq (t := 79) d_Mo_scan_71 ⟨rfl, rfl⟩ (fun hc => ?_) (fun hc => ?_)
    · replace hq := ifp hc hq
      refine V.iload_n d_Mo_scan_79 rfl ?_
      refine V.iret d_Mo_scan_80 rfl ?_
      exact V.rI hq
    · replace hq := ifn hc hq
      refine V.bipush (x := -2) d_Mo_scan_74 (by decide) ?_
      refine V.goto (t := 80) d_Mo_scan_76 ⟨rfl, rfl⟩ ?_
      refine V.iret d_Mo_scan_80 rfl ?_
      exact V.rI hq
theorem w_Mo_fault {d : Nat} {K : Int32 → Hp → Prop} {x0 : Nat} {h0 : Hp} (hq :
  ((hS h0 x0).1 = 8 ∧ (∀ h2 : Hp, h2 = sI h0 x0 0 (0 : Int32) → Ca d m_Mo_scan [.ref x0, .int (0 : Int32)] h2 (QI (fun v3 h4 => K v3 h4))))) : Ca (d + 1) m_Mo_fault [.ref x0] h0 (QI K) := by
  show Wp _ _ 0 [some (.ref x0)] [] h0 _
  refine V.aload_n d_Mo_fault_0 rfl ?_
  refine V.iconst (x := 0) d_Mo_fault_1 (by decide) ?_
  obtain ⟨g1, hq⟩ := hq
  refine V.put0 d_Mo_fault_2 rfl (Or.inl rfl) (List.mem_singleton.mpr g1) ?_
  replace hq := hq _ rfl
  refine V.aload_n d_Mo_fault_5 rfl ?_
  refine V.iconst (x := 0) d_Mo_fault_6 (by decide) ?_
  refine V.callI d_Mo_fault_7 (cV_call (t := [_]) (rs := []) rfl (Or.inl rfl) rfl (lk1 g1) ⟨leb rfl, leb rfl⟩) hq (fun v3 h4 hq => ?_)
  refine V.iret d_Mo_fault_10 rfl ?_
  exact V.rI hq
set_option maxRecDepth 100000 in
theorem w_Mo_interval {d : Nat} {K : Hp → Prop} {x0 : Nat} {x1 : Int32} {h0 : Hp} (hq :
  ((hS h0 x0).1 = 8 ∧ ((hS h0 (hR h0 x0 12)).1 = 20 ∧ (ainr x1 (hS h0 (hR h0 x0 12)).2 = true ∧ (if (hI h0 (hR h0 x0 12) x1.toNatClampNeg) = (112 : Int32) then ((hS h0 (hR h0 x0 13)).1 = 20 ∧ (ainr x1 (hS h0 (hR h0 x0 13)).2 = true ∧ (∀ v6 : Int32, v6 = (hI h0 (hR h0 x0 13) x1.toNatClampNeg) → (∀ v7 : Int64, v7 = ((1 : Int64) <<< (v6.toInt64 &&& 63)) → (if (hI h0 (hR h0 x0 12) x1.toNatClampNeg) = (115 : Int32) then ((hS h0 (hR h0 x0 29)).1 = 21 ∧ (¬ (hR h0 x0 29) = 1 ∧ (ainr x1 (hS h0 (hR h0 x0 29)).2 = true ∧ (∀ h11 : Hp, h11 = sL h0 (hR h0 x0 29) x1.toNatClampNeg ((-v7) / (2 : Int64)) → ((hS h0 (hR h11 x0 12)).1 = 20 ∧ (ainr x1 (hS h0 (hR h11 x0 12)).2 = true ∧ (if (hI h11 (hR h11 x0 12) x1.toNatClampNeg) = (115 : Int32) then ((hS h0 (hR h11 x0 30)).1 = 21 ∧ (¬ (hR h11 x0 30) = 1 ∧ (ainr x1 (hS h0 (hR h11 x0 30)).2 = true ∧ (∀ h17 : Hp, h17 = sL h11 (hR h11 x0 30) x1.toNatClampNeg ((v7 / (2 : Int64)) - (1 : Int64)) → ((hS h0 (hR h17 x0 14)).1 = 20 ∧ (ainr x1 (hS h0 (hR h17 x0 14)).2 = true ∧ (if (hI h17 (hR h17 x0 14) x1.toNatClampNeg) = (60 : Int32) then ((hS h0 (hR h17 x0 15)).1 = 20 ∧ (ainr x1 (hS h0 (hR h17 x0 15)).2 = true ∧ ((hS h0 (hR h17 x0 30)).1 = 21 ∧ (ainr x1 (hS h0 (hR h17 x0 30)).2 = true ∧ (if (((hI h17 (hR h17 x0 15) x1.toNatClampNeg) - (1 : Int32)).toInt64) < (hL h17 (hR h17 x0 30) x1.toNatClampNeg) then (¬ (hR h17 x0 30) = 1 ∧ (∀ h25 : Hp, h25 = sL h17 (hR h17 x0 30) x1.toNatClampNeg (((hI h17 (hR h17 x0 15) x1.toNatClampNeg) - (1 : Int32)).toInt64) → Wp d m_Mo_interval 140 [some (.ref x0), some (.int x1), some (.long v7), none, some (.int v6)] [] h25 (QV K))) else Wp d m_Mo_interval 140 [some (.ref x0), some (.int x1), some (.long v7), none, some (.int v6)] [] h17 (QV K)))))) else Wp d m_Mo_interval 140 [some (.ref x0), some (.int x1), some (.long v7), none, some (.int v6)] [] h17 (QV K)))))))) else ((hS h0 (hR h11 x0 30)).1 = 21 ∧ (¬ (hR h11 x0 30) = 1 ∧ (ainr x1 (hS h0 (hR h11 x0 30)).2 = true ∧ (∀ h29 : Hp, h29 = sL h11 (hR h11 x0 30) x1.toNatClampNeg (v7 - (1 : Int64)) → ((hS h0 (hR h29 x0 14)).1 = 20 ∧ (ainr x1 (hS h0 (hR h29 x0 14)).2 = true ∧ (if (hI h29 (hR h29 x0 14) x1.toNatClampNeg) = (60 : Int32) then ((hS h0 (hR h29 x0 15)).1 = 20 ∧ (ainr x1 (hS h0 (hR h29 x0 15)).2 = true ∧ ((hS h0 (hR h29 x0 30)).1 = 21 ∧ (ainr x1 (hS h0 (hR h29 x0 30)).2 = true ∧ (if (((hI h29 (hR h29 x0 15) x1.toNatClampNeg) - (1 : Int32)).toInt64) < (hL h29 (hR h29 x0 30) x1.toNatClampNeg) then (¬ (hR h29 x0 30) = 1 ∧ (∀ h37 : Hp, h37 = sL h29 (hR h29 x0 30) x1.toNatClampNeg (((hI h29 (hR h29 x0 15) x1.toNatClampNeg) - (1 : Int32)).toInt64) → Wp d m_Mo_interval 140 [some (.ref x0), some (.int x1), some (.long v7), none, some (.int v6)] [] h37 (QV K))) else Wp d m_Mo_interval 140 [some (.ref x0), some (.int x1), some (.long v7), none, some (.int v6)] [] h29 (QV K)))))) else Wp d m_Mo_interval 140 [some (.ref x0), some (.int x1), some (.long v7), none, some (.int v6)] [] h29 (QV K))))))))))))))) else ((hS h0 (hR h0 x0 29)).1 = 21 ∧ (¬ (hR h0 x0 29) = 1 ∧ (ainr x1 (hS h0 (hR h0 x0 29)).2 = true ∧ (∀ h41 : Hp, h41 = sL h0 (hR h0 x0 29) x1.toNatClampNeg (0 : Int64) → ((hS h0 (hR h41 x0 12)).1 = 20 ∧ (ainr x1 (hS h0 (hR h41 x0 12)).2 = true ∧ (if (hI h41 (hR h41 x0 12) x1.toNatClampNeg) = (115 : Int32) then ((hS h0 (hR h41 x0 30)).1 = 21 ∧ (¬ (hR h41 x0 30) = 1 ∧ (ainr x1 (hS h0 (hR h41 x0 30)).2 = true ∧ (∀ h47 : Hp, h47 = sL h41 (hR h41 x0 30) x1.toNatClampNeg ((v7 / (2 : Int64)) - (1 : Int64)) → ((hS h0 (hR h47 x0 14)).1 = 20 ∧ (ainr x1 (hS h0 (hR h47 x0 14)).2 = true ∧ (if (hI h47 (hR h47 x0 14) x1.toNatClampNeg) = (60 : Int32) then ((hS h0 (hR h47 x0 15)).1 = 20 ∧ (ainr x1 (hS h0 (hR h47 x0 15)).2 = true ∧ ((hS h0 (hR h47 x0 30)).1 = 21 ∧ (ainr x1 (hS h0 (hR h47 x0 30)).2 = true ∧ (if (((hI h47 (hR h47 x0 15) x1.toNatClampNeg) - (1 : Int32)).toInt64) < (hL h47 (hR h47 x0 30) x1.toNatClampNeg) then (¬ (hR h47 x0 30) = 1 ∧ (∀ h55 : Hp, h55 = sL h47 (hR h47 x0 30) x1.toNatClampNeg (((hI h47 (hR h47 x0 15) x1.toNatClampNeg) - (1 : Int32)).toInt64) → Wp d m_Mo_interval 140 [some (.ref x0), some (.int x1), some (.long v7), none, some (.int v6)] [] h55 (QV K))) else Wp d m_Mo_interval 140 [some (.ref x0), some (.int x1), some (.long v7), none, some (.int v6)] [] h47 (QV K)))))) else Wp d m_Mo_interval 140 [some (.ref x0), some (.int x1), some (.long v7), none, some (.int v6)] [] h47 (QV K)))))))) else ((hS h0 (hR h41 x0 30)).1 = 21 ∧ (¬ (hR h41 x0 30) = 1 ∧ (ainr x1 (hS h0 (hR h41 x0 30)).2 = true ∧ (∀ h59 : Hp, h59 = sL h41 (hR h41 x0 30) x1.toNatClampNeg (v7 - (1 : Int64)) → ((hS h0 (hR h59 x0 14)).1 = 20 ∧ (ainr x1 (hS h0 (hR h59 x0 14)).2 = true ∧ (if (hI h59 (hR h59 x0 14) x1.toNatClampNeg) = (60 : Int32) then ((hS h0 (hR h59 x0 15)).1 = 20 ∧ (ainr x1 (hS h0 (hR h59 x0 15)).2 = true ∧ ((hS h0 (hR h59 x0 30)).1 = 21 ∧ (ainr x1 (hS h0 (hR h59 x0 30)).2 = true ∧ (if (((hI h59 (hR h59 x0 15) x1.toNatClampNeg) - (1 : Int32)).toInt64) < (hL h59 (hR h59 x0 30) x1.toNatClampNeg) then (¬ (hR h59 x0 30) = 1 ∧ (∀ h67 : Hp, h67 = sL h59 (hR h59 x0 30) x1.toNatClampNeg (((hI h59 (hR h59 x0 15) x1.toNatClampNeg) - (1 : Int32)).toInt64) → Wp d m_Mo_interval 140 [some (.ref x0), some (.int x1), some (.long v7), none, some (.int v6)] [] h67 (QV K))) else Wp d m_Mo_interval 140 [some (.ref x0), some (.int x1), some (.long v7), none, some (.int v6)] [] h59 (QV K)))))) else Wp d m_Mo_interval 140 [some (.ref x0), some (.int x1), some (.long v7), none, some (.int v6)] [] h59 (QV K)))))))))))))))))))) else ((hS h0 (hR h0 x0 13)).1 = 20 ∧ (ainr x1 (hS h0 (hR h0 x0 13)).2 = true ∧ (∀ v70 : Int32, v70 = ((8 : Int32) * (hI h0 (hR h0 x0 13) x1.toNatClampNeg)) → (∀ v71 : Int64, v71 = ((1 : Int64) <<< (v70.toInt64 &&& 63)) → (if (hI h0 (hR h0 x0 12) x1.toNatClampNeg) = (115 : Int32) then ((hS h0 (hR h0 x0 29)).1 = 21 ∧ (¬ (hR h0 x0 29) = 1 ∧ (ainr x1 (hS h0 (hR h0 x0 29)).2 = true ∧ (∀ h75 : Hp, h75 = sL h0 (hR h0 x0 29) x1.toNatClampNeg ((-v71) / (2 : Int64)) → ((hS h0 (hR h75 x0 12)).1 = 20 ∧ (ainr x1 (hS h0 (hR h75 x0 12)).2 = true ∧ (if (hI h75 (hR h75 x0 12) x1.toNatClampNeg) = (115 : Int32) then ((hS h0 (hR h75 x0 30)).1 = 21 ∧ (¬ (hR h75 x0 30) = 1 ∧ (ainr x1 (hS h0 (hR h75 x0 30)).2 = true ∧ (∀ h81 : Hp, h81 = sL h75 (hR h75 x0 30) x1.toNatClampNeg ((v71 / (2 : Int64)) - (1 : Int64)) → ((hS h0 (hR h81 x0 14)).1 = 20 ∧ (ainr x1 (hS h0 (hR h81 x0 14)).2 = true ∧ (if (hI h81 (hR h81 x0 14) x1.toNatClampNeg) = (60 : Int32) then ((hS h0 (hR h81 x0 15)).1 = 20 ∧ (ainr x1 (hS h0 (hR h81 x0 15)).2 = true ∧ ((hS h0 (hR h81 x0 30)).1 = 21 ∧ (ainr x1 (hS h0 (hR h81 x0 30)).2 = true ∧ (if (((hI h81 (hR h81 x0 15) x1.toNatClampNeg) - (1 : Int32)).toInt64) < (hL h81 (hR h81 x0 30) x1.toNatClampNeg) then (¬ (hR h81 x0 30) = 1 ∧ (∀ h89 : Hp, h89 = sL h81 (hR h81 x0 30) x1.toNatClampNeg (((hI h81 (hR h81 x0 15) x1.toNatClampNeg) - (1 : Int32)).toInt64) → Wp d m_Mo_interval 140 [some (.ref x0), some (.int x1), some (.long v71), none, some (.int v70)] [] h89 (QV K))) else Wp d m_Mo_interval 140 [some (.ref x0), some (.int x1), some (.long v71), none, some (.int v70)] [] h81 (QV K)))))) else Wp d m_Mo_interval 140 [some (.ref x0), some (.int x1), some (.long v71), none, some (.int v70)] [] h81 (QV K)))))))) else ((hS h0 (hR h75 x0 30)).1 = 21 ∧ (¬ (hR h75 x0 30) = 1 ∧ (ainr x1 (hS h0 (hR h75 x0 30)).2 = true ∧ (∀ h93 : Hp, h93 = sL h75 (hR h75 x0 30) x1.toNatClampNeg (v71 - (1 : Int64)) → ((hS h0 (hR h93 x0 14)).1 = 20 ∧ (ainr x1 (hS h0 (hR h93 x0 14)).2 = true ∧ (if (hI h93 (hR h93 x0 14) x1.toNatClampNeg) = (60 : Int32) then ((hS h0 (hR h93 x0 15)).1 = 20 ∧ (ainr x1 (hS h0 (hR h93 x0 15)).2 = true ∧ ((hS h0 (hR h93 x0 30)).1 = 21 ∧ (ainr x1 (hS h0 (hR h93 x0 30)).2 = true ∧ (if (((hI h93 (hR h93 x0 15) x1.toNatClampNeg) - (1 : Int32)).toInt64) < (hL h93 (hR h93 x0 30) x1.toNatClampNeg) then (¬ (hR h93 x0 30) = 1 ∧ (∀ h101 : Hp, h101 = sL h93 (hR h93 x0 30) x1.toNatClampNeg (((hI h93 (hR h93 x0 15) x1.toNatClampNeg) - (1 : Int32)).toInt64) → Wp d m_Mo_interval 140 [some (.ref x0), some (.int x1), some (.long v71), none, some (.int v70)] [] h101 (QV K))) else Wp d m_Mo_interval 140 [some (.ref x0), some (.int x1), some (.long v71), none, some (.int v70)] [] h93 (QV K)))))) else Wp d m_Mo_interval 140 [some (.ref x0), some (.int x1), some (.long v71), none, some (.int v70)] [] h93 (QV K))))))))))))))) else ((hS h0 (hR h0 x0 29)).1 = 21 ∧ (¬ (hR h0 x0 29) = 1 ∧ (ainr x1 (hS h0 (hR h0 x0 29)).2 = true ∧ (∀ h105 : Hp, h105 = sL h0 (hR h0 x0 29) x1.toNatClampNeg (0 : Int64) → ((hS h0 (hR h105 x0 12)).1 = 20 ∧ (ainr x1 (hS h0 (hR h105 x0 12)).2 = true ∧ (if (hI h105 (hR h105 x0 12) x1.toNatClampNeg) = (115 : Int32) then ((hS h0 (hR h105 x0 30)).1 = 21 ∧ (¬ (hR h105 x0 30) = 1 ∧ (ainr x1 (hS h0 (hR h105 x0 30)).2 = true ∧ (∀ h111 : Hp, h111 = sL h105 (hR h105 x0 30) x1.toNatClampNeg ((v71 / (2 : Int64)) - (1 : Int64)) → ((hS h0 (hR h111 x0 14)).1 = 20 ∧ (ainr x1 (hS h0 (hR h111 x0 14)).2 = true ∧ (if (hI h111 (hR h111 x0 14) x1.toNatClampNeg) = (60 : Int32) then ((hS h0 (hR h111 x0 15)).1 = 20 ∧ (ainr x1 (hS h0 (hR h111 x0 15)).2 = true ∧ ((hS h0 (hR h111 x0 30)).1 = 21 ∧ (ainr x1 (hS h0 (hR h111 x0 30)).2 = true ∧ (if (((hI h111 (hR h111 x0 15) x1.toNatClampNeg) - (1 : Int32)).toInt64) < (hL h111 (hR h111 x0 30) x1.toNatClampNeg) then (¬ (hR h111 x0 30) = 1 ∧ (∀ h119 : Hp, h119 = sL h111 (hR h111 x0 30) x1.toNatClampNeg (((hI h111 (hR h111 x0 15) x1.toNatClampNeg) - (1 : Int32)).toInt64) → Wp d m_Mo_interval 140 [some (.ref x0), some (.int x1), some (.long v71), none, some (.int v70)] [] h119 (QV K))) else Wp d m_Mo_interval 140 [some (.ref x0), some (.int x1), some (.long v71), none, some (.int v70)] [] h111 (QV K)))))) else Wp d m_Mo_interval 140 [some (.ref x0), some (.int x1), some (.long v71), none, some (.int v70)] [] h111 (QV K)))))))) else ((hS h0 (hR h105 x0 30)).1 = 21 ∧ (¬ (hR h105 x0 30) = 1 ∧ (ainr x1 (hS h0 (hR h105 x0 30)).2 = true ∧ (∀ h123 : Hp, h123 = sL h105 (hR h105 x0 30) x1.toNatClampNeg (v71 - (1 : Int64)) → ((hS h0 (hR h123 x0 14)).1 = 20 ∧ (ainr x1 (hS h0 (hR h123 x0 14)).2 = true ∧ (if (hI h123 (hR h123 x0 14) x1.toNatClampNeg) = (60 : Int32) then ((hS h0 (hR h123 x0 15)).1 = 20 ∧ (ainr x1 (hS h0 (hR h123 x0 15)).2 = true ∧ ((hS h0 (hR h123 x0 30)).1 = 21 ∧ (ainr x1 (hS h0 (hR h123 x0 30)).2 = true ∧ (if (((hI h123 (hR h123 x0 15) x1.toNatClampNeg) - (1 : Int32)).toInt64) < (hL h123 (hR h123 x0 30) x1.toNatClampNeg) then (¬ (hR h123 x0 30) = 1 ∧ (∀ h131 : Hp, h131 = sL h123 (hR h123 x0 30) x1.toNatClampNeg (((hI h123 (hR h123 x0 15) x1.toNatClampNeg) - (1 : Int32)).toInt64) → Wp d m_Mo_interval 140 [some (.ref x0), some (.int x1), some (.long v71), none, some (.int v70)] [] h131 (QV K))) else Wp d m_Mo_interval 140 [some (.ref x0), some (.int x1), some (.long v71), none, some (.int v70)] [] h123 (QV K)))))) else Wp d m_Mo_interval 140 [some (.ref x0), some (.int x1), some (.long v71), none, some (.int v70)] [] h123 (QV K))))))))))))))))))))))))) : Ca d m_Mo_interval [.ref x0, .int x1] h0 (QV K) := by
  show Wp _ _ 0 [some (.ref x0), some (.int x1), none, none, none] [] h0 _
  refine V.lconst (x := 1) d_Mo_interval_0 (by decide) ?_
  refine V.lstore_n (l' := [_, _, _, _, _]) d_Mo_interval_1 rfl (ltb rfl) ?_
  refine V.aload_n d_Mo_interval_2 rfl ?_
  obtain ⟨g1, hq⟩ := hq
  refine V.get2 d_Mo_interval_3 rfl (List.mem_singleton.mpr g1) ?_
  refine V.iload_n d_Mo_interval_6 rfl ?_
  obtain ⟨g2, hq⟩ := hq
  obtain ⟨g3, hq⟩ := hq
  refine V.iaload d_Mo_interval_7 g2 g3 ?_
  refine V.bipush (x := 112) d_Mo_interval_8 (by decide) ?_
  refine V.ic_ne (t := 22) d_Mo_interval_10 ⟨rfl, rfl⟩ (fun hc => ?_) (fun hc => ?_)
  · replace hq := ifp hc hq
    refine V.aload_n d_Mo_interval_13 rfl ?_
    refine V.get2 d_Mo_interval_14 rfl (List.mem_singleton.mpr g1) ?_
    refine V.iload_n d_Mo_interval_17 rfl ?_
    obtain ⟨g4, hq⟩ := hq
    obtain ⟨g5, hq⟩ := hq
    refine V.iaload d_Mo_interval_18 g4 g5 ?_
    refine V.goto (t := 31) d_Mo_interval_19 ⟨rfl, rfl⟩ ?_
    replace hq := hq _ rfl
    refine V.istore (l' := [_, _, _, _, _]) d_Mo_interval_31 rfl (ltb rfl) ?_
    refine V.lload_n d_Mo_interval_33 rfl ?_
    refine V.iload d_Mo_interval_34 rfl ?_
    refine V.lshl d_Mo_interval_36 ?_
    replace hq := hq _ rfl
    refine V.lstore_n (l' := [_, _, _, _, _]) d_Mo_interval_37 rfl (ltb rfl) ?_
    refine V.aload_n d_Mo_interval_38 rfl ?_
    refine V.get2 d_Mo_interval_39 rfl (List.mem_singleton.mpr g1) ?_
    refine V.iload_n d_Mo_interval_42 rfl ?_
    refine V.aload_n d_Mo_interval_43 rfl ?_
    refine V.get2 d_Mo_interval_44 rfl (List.mem_singleton.mpr g1) ?_
    refine V.iload_n d_Mo_interval_47 rfl ?_
    refine V.iaload d_Mo_interval_48 g2 g3 ?_
    refine V.bipush (x := 115) d_Mo_interval_49 (by decide) ?_
    refine V.ic_ne (t := 63) d_Mo_interval_51 ⟨rfl, rfl⟩ (fun hc => ?_) (fun hc => ?_)
    · replace hq := ifp hc hq
      refine V.lload_n d_Mo_interval_54 rfl ?_
      refine V.lneg d_Mo_interval_55 ?_
      refine V.ldc2_w d_Mo_interval_56 rfl ?_
      refine V.ldiv d_Mo_interval_59 (by decide) ?_
      refine V.goto (t := 64) d_Mo_interval_60 ⟨rfl, rfl⟩ ?_
      obtain ⟨g8, hq⟩ := hq
      obtain ⟨g9, hq⟩ := hq
      obtain ⟨g10, hq⟩ := hq
      refine V.lastore d_Mo_interval_64 g8 g9 g10 ?_
      replace hq := hq _ rfl
      refine V.aload_n d_Mo_interval_65 rfl ?_
      refine V.get2 d_Mo_interval_66 rfl (List.mem_singleton.mpr g1) ?_
      refine V.iload_n d_Mo_interval_69 rfl ?_
      refine V.aload_n d_Mo_interval_70 rfl ?_
      refine V.get2 d_Mo_interval_71 rfl (List.mem_singleton.mpr g1) ?_
      refine V.iload_n d_Mo_interval_74 rfl ?_
      obtain ⟨g12, hq⟩ := hq
      obtain ⟨g13, hq⟩ := hq
      refine V.iaload d_Mo_interval_75 g12 g13 ?_
      refine V.bipush (x := 115) d_Mo_interval_76 (by decide) ?_
      refine V.ic_ne (t := 91) d_Mo_interval_78 ⟨rfl, rfl⟩ (fun hc => ?_) (fun hc => ?_)
      · replace hq := ifp hc hq
        refine V.lload_n d_Mo_interval_81 rfl ?_
        refine V.ldc2_w d_Mo_interval_82 rfl ?_
        refine V.ldiv d_Mo_interval_85 (by decide) ?_
        refine V.lconst (x := 1) d_Mo_interval_86 (by decide) ?_
        refine V.lsub d_Mo_interval_87 ?_
        refine V.goto (t := 94) d_Mo_interval_88 ⟨rfl, rfl⟩ ?_
        obtain ⟨g14, hq⟩ := hq
        obtain ⟨g15, hq⟩ := hq
        obtain ⟨g16, hq⟩ := hq
        refine V.lastore d_Mo_interval_94 g14 g15 g16 ?_
        replace hq := hq _ rfl
        refine V.aload_n d_Mo_interval_95 rfl ?_
        refine V.get2 d_Mo_interval_96 rfl (List.mem_singleton.mpr g1) ?_
        refine V.iload_n d_Mo_interval_99 rfl ?_
        obtain ⟨g18, hq⟩ := hq
        obtain ⟨g19, hq⟩ := hq
        refine V.iaload d_Mo_interval_100 g18 g19 ?_
        refine V.bipush (x := 60) d_Mo_interval_101 (by decide) ?_
        refine V.ic_ne (t := 140) d_Mo_interval_103 ⟨rfl, rfl⟩ (fun hc => ?_) (fun hc => ?_)
        · replace hq := ifp hc hq
          refine V.aload_n d_Mo_interval_106 rfl ?_
          refine V.get2 d_Mo_interval_107 rfl (List.mem_singleton.mpr g1) ?_
          refine V.iload_n d_Mo_interval_110 rfl ?_
          obtain ⟨g20, hq⟩ := hq
          obtain ⟨g21, hq⟩ := hq
          refine V.iaload d_Mo_interval_111 g20 g21 ?_
          refine V.iconst (x := 1) d_Mo_interval_112 (by decide) ?_
          refine V.isub d_Mo_interval_113 ?_
          refine V.i2l d_Mo_interval_114 ?_
          refine V.aload_n d_Mo_interval_115 rfl ?_
          refine V.get2 d_Mo_interval_116 rfl (List.mem_singleton.mpr g1) ?_
          refine V.iload_n d_Mo_interval_119 rfl ?_
          obtain ⟨g22, hq⟩ := hq
          obtain ⟨g23, hq⟩ := hq
          refine V.laload d_Mo_interval_120 g22 g23 ?_
          refine V.lc_ge d_Mo_interval_121 d_Mo_interval_122 ⟨rfl, rfl⟩ (fun hc => ?_) (fun hc => ?_)
          · replace hq := ifp hc hq
            refine V.aload_n d_Mo_interval_125 rfl ?_
            refine V.get2 d_Mo_interval_126 rfl (List.mem_singleton.mpr g1) ?_
            refine V.iload_n d_Mo_interval_129 rfl ?_
            refine V.aload_n d_Mo_interval_130 rfl ?_
            refine V.get2 d_Mo_interval_131 rfl (List.mem_singleton.mpr g1) ?_
            refine V.iload_n d_Mo_interval_134 rfl ?_
            refine V.iaload d_Mo_interval_135 g20 g21 ?_
            refine V.iconst (x := 1) d_Mo_interval_136 (by decide) ?_
            refine V.isub d_Mo_interval_137 ?_
            refine V.i2l d_Mo_interval_138 ?_
            obtain ⟨g24, hq⟩ := hq
            refine V.lastore d_Mo_interval_139 g22 g24 g23 ?_
            replace hq := hq _ rfl
            exact hq
          · replace hq := ifn hc hq
            exact hq
        · replace hq := ifn hc hq
          exact hq
      · replace hq := ifn hc hq
        refine V.lload_n d_Mo_interval_91 rfl ?_
        refine V.lconst (x := 1) d_Mo_interval_92 (by decide) ?_
        refine V.lsub d_Mo_interval_93 ?_
        obtain ⟨g26, hq⟩ := hq
        obtain ⟨g27, hq⟩ := hq
        obtain ⟨g28, hq⟩ := hq
        refine V.lastore d_Mo_interval_94 g26 g27 g28 ?_
        replace hq := hq _ rfl
        refine V.aload_n d_Mo_interval_95 rfl ?_
        refine V.get2 d_Mo_interval_96 rfl (List.mem_singleton.mpr g1) ?_
        refine V.iload_n d_Mo_interval_99 rfl ?_
        obtain ⟨g30, hq⟩ := hq
        obtain ⟨g31, hq⟩ := hq
        refine V.iaload d_Mo_interval_100 g30 g31 ?_
        refine V.bipush (x := 60) d_Mo_interval_101 (by decide) ?_
        refine V.ic_ne (t := 140) d_Mo_interval_103 ⟨rfl, rfl⟩ (fun hc => ?_) (fun hc => ?_)
        · replace hq := ifp hc hq
          refine V.aload_n d_Mo_interval_106 rfl ?_
          refine V.get2 d_Mo_interval_107 rfl (List.mem_singleton.mpr g1) ?_
          refine V.iload_n d_Mo_interval_110 rfl ?_
          obtain ⟨g32, hq⟩ := hq
          obtain ⟨g33, hq⟩ := hq
          refine V.iaload d_Mo_interval_111 g32 g33 ?_
          refine V.iconst (x := 1) d_Mo_interval_112 (by decide) ?_
          refine V.isub d_Mo_interval_113 ?_
          refine V.i2l d_Mo_interval_114 ?_
          refine V.aload_n d_Mo_interval_115 rfl ?_
          refine V.get2 d_Mo_interval_116 rfl (List.mem_singleton.mpr g1) ?_
          refine V.iload_n d_Mo_interval_119 rfl ?_
          obtain ⟨g34, hq⟩ := hq
          obtain ⟨g35, hq⟩ := hq
          refine V.laload d_Mo_interval_120 g34 g35 ?_
          refine V.lc_ge d_Mo_interval_121 d_Mo_interval_122 ⟨rfl, rfl⟩ (fun hc => ?_) (fun hc => ?_)
          · replace hq := ifp hc hq
            refine V.aload_n d_Mo_interval_125 rfl ?_
            refine V.get2 d_Mo_interval_126 rfl (List.mem_singleton.mpr g1) ?_
            refine V.iload_n d_Mo_interval_129 rfl ?_
            refine V.aload_n d_Mo_interval_130 rfl ?_
            refine V.get2 d_Mo_interval_131 rfl (List.mem_singleton.mpr g1) ?_
            refine V.iload_n d_Mo_interval_134 rfl ?_
            refine V.iaload d_Mo_interval_135 g32 g33 ?_
            refine V.iconst (x := 1) d_Mo_interval_136 (by decide) ?_
            refine V.isub d_Mo_interval_137 ?_
            refine V.i2l d_Mo_interval_138 ?_
            obtain ⟨g36, hq⟩ := hq
            refine V.lastore d_Mo_interval_139 g34 g36 g35 ?_
            replace hq := hq _ rfl
            exact hq
          · replace hq := ifn hc hq
            exact hq
        · replace hq := ifn hc hq
          exact hq
    · replace hq := ifn hc hq
      refine V.lconst (x := 0) d_Mo_interval_63 (by decide) ?_
      obtain ⟨g38, hq⟩ := hq
      obtain ⟨g39, hq⟩ := hq
      obtain ⟨g40, hq⟩ := hq
      refine V.lastore d_Mo_interval_64 g38 g39 g40 ?_
      replace hq := hq _ rfl
      refine V.aload_n d_Mo_interval_65 rfl ?_
      refine V.get2 d_Mo_interval_66 rfl (List.mem_singleton.mpr g1) ?_
      refine V.iload_n d_Mo_interval_69 rfl ?_
      refine V.aload_n d_Mo_interval_70 rfl ?_
      refine V.get2 d_Mo_interval_71 rfl (List.mem_singleton.mpr g1) ?_
      refine V.iload_n d_Mo_interval_74 rfl ?_
      obtain ⟨g42, hq⟩ := hq
      obtain ⟨g43, hq⟩ := hq
      refine V.iaload d_Mo_interval_75 g42 g43 ?_
      refine V.bipush (x := 115) d_Mo_interval_76 (by decide) ?_
      refine V.ic_ne (t := 91) d_Mo_interval_78 ⟨rfl, rfl⟩ (fun hc => ?_) (fun hc => ?_)
      · replace hq := ifp hc hq
        refine V.lload_n d_Mo_interval_81 rfl ?_
        refine V.ldc2_w d_Mo_interval_82 rfl ?_
        refine V.ldiv d_Mo_interval_85 (by decide) ?_
        refine V.lconst (x := 1) d_Mo_interval_86 (by decide) ?_
        refine V.lsub d_Mo_interval_87 ?_
        refine V.goto (t := 94) d_Mo_interval_88 ⟨rfl, rfl⟩ ?_
        obtain ⟨g44, hq⟩ := hq
        obtain ⟨g45, hq⟩ := hq
        obtain ⟨g46, hq⟩ := hq
        refine V.lastore d_Mo_interval_94 g44 g45 g46 ?_
        replace hq := hq _ rfl
        refine V.aload_n d_Mo_interval_95 rfl ?_
        refine V.get2 d_Mo_interval_96 rfl (List.mem_singleton.mpr g1) ?_
        refine V.iload_n d_Mo_interval_99 rfl ?_
        obtain ⟨g48, hq⟩ := hq
        obtain ⟨g49, hq⟩ := hq
        refine V.iaload d_Mo_interval_100 g48 g49 ?_
        refine V.bipush (x := 60) d_Mo_interval_101 (by decide) ?_
        refine V.ic_ne (t := 140) d_Mo_interval_103 ⟨rfl, rfl⟩ (fun hc => ?_) (fun hc => ?_)
        · replace hq := ifp hc hq
          refine V.aload_n d_Mo_interval_106 rfl ?_
          refine V.get2 d_Mo_interval_107 rfl (List.mem_singleton.mpr g1) ?_
          refine V.iload_n d_Mo_interval_110 rfl ?_
          obtain ⟨g50, hq⟩ := hq
          obtain ⟨g51, hq⟩ := hq
          refine V.iaload d_Mo_interval_111 g50 g51 ?_
          refine V.iconst (x := 1) d_Mo_interval_112 (by decide) ?_
          refine V.isub d_Mo_interval_113 ?_
          refine V.i2l d_Mo_interval_114 ?_
          refine V.aload_n d_Mo_interval_115 rfl ?_
          refine V.get2 d_Mo_interval_116 rfl (List.mem_singleton.mpr g1) ?_
          refine V.iload_n d_Mo_interval_119 rfl ?_
          obtain ⟨g52, hq⟩ := hq
          obtain ⟨g53, hq⟩ := hq
          refine V.laload d_Mo_interval_120 g52 g53 ?_
          refine V.lc_ge d_Mo_interval_121 d_Mo_interval_122 ⟨rfl, rfl⟩ (fun hc => ?_) (fun hc => ?_)
          · replace hq := ifp hc hq
            refine V.aload_n d_Mo_interval_125 rfl ?_
            refine V.get2 d_Mo_interval_126 rfl (List.mem_singleton.mpr g1) ?_
            refine V.iload_n d_Mo_interval_129 rfl ?_
            refine V.aload_n d_Mo_interval_130 rfl ?_
            refine V.get2 d_Mo_interval_131 rfl (List.mem_singleton.mpr g1) ?_
            refine V.iload_n d_Mo_interval_134 rfl ?_
            refine V.iaload d_Mo_interval_135 g50 g51 ?_
            refine V.iconst (x := 1) d_Mo_interval_136 (by decide) ?_
            refine V.isub d_Mo_interval_137 ?_
            refine V.i2l d_Mo_interval_138 ?_
            obtain ⟨g54, hq⟩ := hq
            refine V.lastore d_Mo_interval_139 g52 g54 g53 ?_
            replace hq := hq _ rfl
            exact hq
          · replace hq := ifn hc hq
            exact hq
        · replace hq := ifn hc hq
          exact hq
      · replace hq := ifn hc hq
        refine V.lload_n d_Mo_interval_91 rfl ?_
        refine V.lconst (x := 1) d_Mo_interval_92 (by decide) ?_
        refine V.lsub d_Mo_interval_93 ?_
        obtain ⟨g56, hq⟩ := hq
        obtain ⟨g57, hq⟩ := hq
        obtain ⟨g58, hq⟩ := hq
        refine V.lastore d_Mo_interval_94 g56 g57 g58 ?_
        replace hq := hq _ rfl
        refine V.aload_n d_Mo_interval_95 rfl ?_
        refine V.get2 d_Mo_interval_96 rfl (List.mem_singleton.mpr g1) ?_
        refine V.iload_n d_Mo_interval_99 rfl ?_
        obtain ⟨g60, hq⟩ := hq
        obtain ⟨g61, hq⟩ := hq
        refine V.iaload d_Mo_interval_100 g60 g61 ?_
        refine V.bipush (x := 60) d_Mo_interval_101 (by decide) ?_
        refine V.ic_ne (t := 140) d_Mo_interval_103 ⟨rfl, rfl⟩ (fun hc => ?_) (fun hc => ?_)
        · replace hq := ifp hc hq
          refine V.aload_n d_Mo_interval_106 rfl ?_
          refine V.get2 d_Mo_interval_107 rfl (List.mem_singleton.mpr g1) ?_
          refine V.iload_n d_Mo_interval_110 rfl ?_
          obtain ⟨g62, hq⟩ := hq
          obtain ⟨g63, hq⟩ := hq
          refine V.iaload d_Mo_interval_111 g62 g63 ?_
          refine V.iconst (x := 1) d_Mo_interval_112 (by decide) ?_
          refine V.isub d_Mo_interval_113 ?_
          refine V.i2l d_Mo_interval_114 ?_
          refine V.aload_n d_Mo_interval_115 rfl ?_
          refine V.get2 d_Mo_interval_116 rfl (List.mem_singleton.mpr g1) ?_
          refine V.iload_n d_Mo_interval_119 rfl ?_
          obtain ⟨g64, hq⟩ := hq
          obtain ⟨g65, hq⟩ := hq
          refine V.laload d_Mo_interval_120 g64 g65 ?_
          refine V.lc_ge d_Mo_interval_121 d_Mo_interval_122 ⟨rfl, rfl⟩ (fun hc => ?_) (fun hc => ?_)
          · replace hq := ifp hc hq
            refine V.aload_n d_Mo_interval_125 rfl ?_
            refine V.get2 d_Mo_interval_126 rfl (List.mem_singleton.mpr g1) ?_
            refine V.iload_n d_Mo_interval_129 rfl ?_
            refine V.aload_n d_Mo_interval_130 rfl ?_
            refine V.get2 d_Mo_interval_131 rfl (List.mem_singleton.mpr g1) ?_
            refine V.iload_n d_Mo_interval_134 rfl ?_
            refine V.iaload d_Mo_interval_135 g62 g63 ?_
            refine V.iconst (x := 1) d_Mo_interval_136 (by decide) ?_
            refine V.isub d_Mo_interval_137 ?_
            refine V.i2l d_Mo_interval_138 ?_
            obtain ⟨g66, hq⟩ := hq
            refine V.lastore d_Mo_interval_139 g64 g66 g65 ?_
            replace hq := hq _ rfl
            exact hq
          · replace hq := ifn hc hq
            exact hq
        · replace hq := ifn hc hq
          exact hq
  · replace hq := ifn hc hq
    refine V.bipush (x := 8) d_Mo_interval_22 (by decide) ?_
    refine V.aload_n d_Mo_interval_24 rfl ?_
    refine V.get2 d_Mo_interval_25 rfl (List.mem_singleton.mpr g1) ?_
    refine V.iload_n d_Mo_interval_28 rfl ?_
    obtain ⟨g68, hq⟩ := hq
    obtain ⟨g69, hq⟩ := hq
    refine V.iaload d_Mo_interval_29 g68 g69 ?_
    refine V.imul d_Mo_interval_30 ?_
    replace hq := hq _ rfl
    refine V.istore (l' := [_, _, _, _, _]) d_Mo_interval_31 rfl (ltb rfl) ?_
    refine V.lload_n d_Mo_interval_33 rfl ?_
    refine V.iload d_Mo_interval_34 rfl ?_
    refine V.lshl d_Mo_interval_36 ?_
    replace hq := hq _ rfl
    refine V.lstore_n (l' := [_, _, _, _, _]) d_Mo_interval_37 rfl (ltb rfl) ?_
    refine V.aload_n d_Mo_interval_38 rfl ?_
    refine V.get2 d_Mo_interval_39 rfl (List.mem_singleton.mpr g1) ?_
    refine V.iload_n d_Mo_interval_42 rfl ?_
    refine V.aload_n d_Mo_interval_43 rfl ?_
    refine V.get2 d_Mo_interval_44 rfl (List.mem_singleton.mpr g1) ?_
    refine V.iload_n d_Mo_interval_47 rfl ?_
    refine V.iaload d_Mo_interval_48 g2 g3 ?_
    refine V.bipush (x := 115) d_Mo_interval_49 (by decide) ?_
    refine V.ic_ne (t := 63) d_Mo_interval_51 ⟨rfl, rfl⟩ (fun hc => ?_) (fun hc => ?_)
    · replace hq := ifp hc hq
      refine V.lload_n d_Mo_interval_54 rfl ?_
      refine V.lneg d_Mo_interval_55 ?_
      refine V.ldc2_w d_Mo_interval_56 rfl ?_
      refine V.ldiv d_Mo_interval_59 (by decide) ?_
      refine V.goto (t := 64) d_Mo_interval_60 ⟨rfl, rfl⟩ ?_
      obtain ⟨g72, hq⟩ := hq
      obtain ⟨g73, hq⟩ := hq
      obtain ⟨g74, hq⟩ := hq
      refine V.lastore d_Mo_interval_64 g72 g73 g74 ?_
      replace hq := hq _ rfl
      refine V.aload_n d_Mo_interval_65 rfl ?_
      refine V.get2 d_Mo_interval_66 rfl (List.mem_singleton.mpr g1) ?_
      refine V.iload_n d_Mo_interval_69 rfl ?_
      refine V.aload_n d_Mo_interval_70 rfl ?_
      refine V.get2 d_Mo_interval_71 rfl (List.mem_singleton.mpr g1) ?_
      refine V.iload_n d_Mo_interval_74 rfl ?_
      obtain ⟨g76, hq⟩ := hq
      obtain ⟨g77, hq⟩ := hq
      refine V.iaload d_Mo_interval_75 g76 g77 ?_
      refine V.bipush (x := 115) d_Mo_interval_76 (by decide) ?_
      refine V.ic_ne (t := 91) d_Mo_interval_78 ⟨rfl, rfl⟩ (fun hc => ?_) (fun hc => ?_)
      · replace hq := ifp hc hq
        refine V.lload_n d_Mo_interval_81 rfl ?_
        refine V.ldc2_w d_Mo_interval_82 rfl ?_
        refine V.ldiv d_Mo_interval_85 (by decide) ?_
        refine V.lconst (x := 1) d_Mo_interval_86 (by decide) ?_
        refine V.lsub d_Mo_interval_87 ?_
        refine V.goto (t := 94) d_Mo_interval_88 ⟨rfl, rfl⟩ ?_
        obtain ⟨g78, hq⟩ := hq
        obtain ⟨g79, hq⟩ := hq
        obtain ⟨g80, hq⟩ := hq
        refine V.lastore d_Mo_interval_94 g78 g79 g80 ?_
        replace hq := hq _ rfl
        refine V.aload_n d_Mo_interval_95 rfl ?_
        refine V.get2 d_Mo_interval_96 rfl (List.mem_singleton.mpr g1) ?_
        refine V.iload_n d_Mo_interval_99 rfl ?_
        obtain ⟨g82, hq⟩ := hq
        obtain ⟨g83, hq⟩ := hq
        refine V.iaload d_Mo_interval_100 g82 g83 ?_
        refine V.bipush (x := 60) d_Mo_interval_101 (by decide) ?_
        refine V.ic_ne (t := 140) d_Mo_interval_103 ⟨rfl, rfl⟩ (fun hc => ?_) (fun hc => ?_)
        · replace hq := ifp hc hq
          refine V.aload_n d_Mo_interval_106 rfl ?_
          refine V.get2 d_Mo_interval_107 rfl (List.mem_singleton.mpr g1) ?_
          refine V.iload_n d_Mo_interval_110 rfl ?_
          obtain ⟨g84, hq⟩ := hq
          obtain ⟨g85, hq⟩ := hq
          refine V.iaload d_Mo_interval_111 g84 g85 ?_
          refine V.iconst (x := 1) d_Mo_interval_112 (by decide) ?_
          refine V.isub d_Mo_interval_113 ?_
          refine V.i2l d_Mo_interval_114 ?_
          refine V.aload_n d_Mo_interval_115 rfl ?_
          refine V.get2 d_Mo_interval_116 rfl (List.mem_singleton.mpr g1) ?_
          refine V.iload_n d_Mo_interval_119 rfl ?_
          obtain ⟨g86, hq⟩ := hq
          obtain ⟨g87, hq⟩ := hq
          refine V.laload d_Mo_interval_120 g86 g87 ?_
          refine V.lc_ge d_Mo_interval_121 d_Mo_interval_122 ⟨rfl, rfl⟩ (fun hc => ?_) (fun hc => ?_)
          · replace hq := ifp hc hq
            refine V.aload_n d_Mo_interval_125 rfl ?_
            refine V.get2 d_Mo_interval_126 rfl (List.mem_singleton.mpr g1) ?_
            refine V.iload_n d_Mo_interval_129 rfl ?_
            refine V.aload_n d_Mo_interval_130 rfl ?_
            refine V.get2 d_Mo_interval_131 rfl (List.mem_singleton.mpr g1) ?_
            refine V.iload_n d_Mo_interval_134 rfl ?_
            refine V.iaload d_Mo_interval_135 g84 g85 ?_
            refine V.iconst (x := 1) d_Mo_interval_136 (by decide) ?_
            refine V.isub d_Mo_interval_137 ?_
            refine V.i2l d_Mo_interval_138 ?_
            obtain ⟨g88, hq⟩ := hq
            refine V.lastore d_Mo_interval_139 g86 g88 g87 ?_
            replace hq := hq _ rfl
            exact hq
          · replace hq := ifn hc hq
            exact hq
        · replace hq := ifn hc hq
          exact hq
      · replace hq := ifn hc hq
        refine V.lload_n d_Mo_interval_91 rfl ?_
        refine V.lconst (x := 1) d_Mo_interval_92 (by decide) ?_
        refine V.lsub d_Mo_interval_93 ?_
        obtain ⟨g90, hq⟩ := hq
        obtain ⟨g91, hq⟩ := hq
        obtain ⟨g92, hq⟩ := hq
        refine V.lastore d_Mo_interval_94 g90 g91 g92 ?_
        replace hq := hq _ rfl
        refine V.aload_n d_Mo_interval_95 rfl ?_
        refine V.get2 d_Mo_interval_96 rfl (List.mem_singleton.mpr g1) ?_
        refine V.iload_n d_Mo_interval_99 rfl ?_
        obtain ⟨g94, hq⟩ := hq
        obtain ⟨g95, hq⟩ := hq
        refine V.iaload d_Mo_interval_100 g94 g95 ?_
        refine V.bipush (x := 60) d_Mo_interval_101 (by decide) ?_
        refine V.ic_ne (t := 140) d_Mo_interval_103 ⟨rfl, rfl⟩ (fun hc => ?_) (fun hc => ?_)
        · replace hq := ifp hc hq
          refine V.aload_n d_Mo_interval_106 rfl ?_
          refine V.get2 d_Mo_interval_107 rfl (List.mem_singleton.mpr g1) ?_
          refine V.iload_n d_Mo_interval_110 rfl ?_
          obtain ⟨g96, hq⟩ := hq
          obtain ⟨g97, hq⟩ := hq
          refine V.iaload d_Mo_interval_111 g96 g97 ?_
          refine V.iconst (x := 1) d_Mo_interval_112 (by decide) ?_
          refine V.isub d_Mo_interval_113 ?_
          refine V.i2l d_Mo_interval_114 ?_
          refine V.aload_n d_Mo_interval_115 rfl ?_
          refine V.get2 d_Mo_interval_116 rfl (List.mem_singleton.mpr g1) ?_
          refine V.iload_n d_Mo_interval_119 rfl ?_
          obtain ⟨g98, hq⟩ := hq
          obtain ⟨g99, hq⟩ := hq
          refine V.laload d_Mo_interval_120 g98 g99 ?_
          refine V.lc_ge d_Mo_interval_121 d_Mo_interval_122 ⟨rfl, rfl⟩ (fun hc => ?_) (fun hc => ?_)
          · replace hq := ifp hc hq
            refine V.aload_n d_Mo_interval_125 rfl ?_
            refine V.get2 d_Mo_interval_126 rfl (List.mem_singleton.mpr g1) ?_
            refine V.iload_n d_Mo_interval_129 rfl ?_
            refine V.aload_n d_Mo_interval_130 rfl ?_
            refine V.get2 d_Mo_interval_131 rfl (List.mem_singleton.mpr g1) ?_
            refine V.iload_n d_Mo_interval_134 rfl ?_
            refine V.iaload d_Mo_interval_135 g96 g97 ?_
            refine V.iconst (x := 1) d_Mo_interval_136 (by decide) ?_
            refine V.isub d_Mo_interval_137 ?_
            refine V.i2l d_Mo_interval_138 ?_
            obtain ⟨g100, hq⟩ := hq
            refine V.lastore d_Mo_interval_139 g98 g100 g99 ?_
            replace hq := hq _ rfl
            exact hq
          · replace hq := ifn hc hq
            exact hq
        · replace hq := ifn hc hq
          exact hq
    · replace hq := ifn hc hq
      refine V.lconst (x := 0) d_Mo_interval_63 (by decide) ?_
      obtain ⟨g102, hq⟩ := hq
      obtain ⟨g103, hq⟩ := hq
      obtain ⟨g104, hq⟩ := hq
      refine V.lastore d_Mo_interval_64 g102 g103 g104 ?_
      replace hq := hq _ rfl
      refine V.aload_n d_Mo_interval_65 rfl ?_
      refine V.get2 d_Mo_interval_66 rfl (List.mem_singleton.mpr g1) ?_
      refine V.iload_n d_Mo_interval_69 rfl ?_
      refine V.aload_n d_Mo_interval_70 rfl ?_
      refine V.get2 d_Mo_interval_71 rfl (List.mem_singleton.mpr g1) ?_
      refine V.iload_n d_Mo_interval_74 rfl ?_
      obtain ⟨g106, hq⟩ := hq
      obtain ⟨g107, hq⟩ := hq
      refine V.iaload d_Mo_interval_75 g106 g107 ?_
      refine V.bipush (x := 115) d_Mo_interval_76 (by decide) ?_
      refine V.ic_ne (t := 91) d_Mo_interval_78 ⟨rfl, rfl⟩ (fun hc => ?_) (fun hc => ?_)
      · replace hq := ifp hc hq
        refine V.lload_n d_Mo_interval_81 rfl ?_
        refine V.ldc2_w d_Mo_interval_82 rfl ?_
        refine V.ldiv d_Mo_interval_85 (by decide) ?_
        refine V.lconst (x := 1) d_Mo_interval_86 (by decide) ?_
        refine V.lsub d_Mo_interval_87 ?_
        refine V.goto (t := 94) d_Mo_interval_88 ⟨rfl, rfl⟩ ?_
        obtain ⟨g108, hq⟩ := hq
        obtain ⟨g109, hq⟩ := hq
        obtain ⟨g110, hq⟩ := hq
        refine V.lastore d_Mo_interval_94 g108 g109 g110 ?_
        replace hq := hq _ rfl
        refine V.aload_n d_Mo_interval_95 rfl ?_
        refine V.get2 d_Mo_interval_96 rfl (List.mem_singleton.mpr g1) ?_
        refine V.iload_n d_Mo_interval_99 rfl ?_
        obtain ⟨g112, hq⟩ := hq
        obtain ⟨g113, hq⟩ := hq
        refine V.iaload d_Mo_interval_100 g112 g113 ?_
        refine V.bipush (x := 60) d_Mo_interval_101 (by decide) ?_
        refine V.ic_ne (t := 140) d_Mo_interval_103 ⟨rfl, rfl⟩ (fun hc => ?_) (fun hc => ?_)
        · replace hq := ifp hc hq
          refine V.aload_n d_Mo_interval_106 rfl ?_
          refine V.get2 d_Mo_interval_107 rfl (List.mem_singleton.mpr g1) ?_
          refine V.iload_n d_Mo_interval_110 rfl ?_
          obtain ⟨g114, hq⟩ := hq
          obtain ⟨g115, hq⟩ := hq
          refine V.iaload d_Mo_interval_111 g114 g115 ?_
          refine V.iconst (x := 1) d_Mo_interval_112 (by decide) ?_
          refine V.isub d_Mo_interval_113 ?_
          refine V.i2l d_Mo_interval_114 ?_
          refine V.aload_n d_Mo_interval_115 rfl ?_
          refine V.get2 d_Mo_interval_116 rfl (List.mem_singleton.mpr g1) ?_
          refine V.iload_n d_Mo_interval_119 rfl ?_
          obtain ⟨g116, hq⟩ := hq
          obtain ⟨g117, hq⟩ := hq
          refine V.laload d_Mo_interval_120 g116 g117 ?_
          refine V.lc_ge d_Mo_interval_121 d_Mo_interval_122 ⟨rfl, rfl⟩ (fun hc => ?_) (fun hc => ?_)
          · replace hq := ifp hc hq
            refine V.aload_n d_Mo_interval_125 rfl ?_
            refine V.get2 d_Mo_interval_126 rfl (List.mem_singleton.mpr g1) ?_
            refine V.iload_n d_Mo_interval_129 rfl ?_
            refine V.aload_n d_Mo_interval_130 rfl ?_
            refine V.get2 d_Mo_interval_131 rfl (List.mem_singleton.mpr g1) ?_
            refine V.iload_n d_Mo_interval_134 rfl ?_
            refine V.iaload d_Mo_interval_135 g114 g115 ?_
            refine V.iconst (x := 1) d_Mo_interval_136 (by decide) ?_
            refine V.isub d_Mo_interval_137 ?_
            refine V.i2l d_Mo_interval_138 ?_
            obtain ⟨g118, hq⟩ := hq
            refine V.lastore d_Mo_interval_139 g116 g118 g117 ?_
            replace hq := hq _ rfl
            exact hq
          · replace hq := ifn hc hq
            exact hq
        · replace hq := ifn hc hq
          exact hq
      · replace hq := ifn hc hq
        refine V.lload_n d_Mo_interval_91 rfl ?_
        refine V.lconst (x := 1) d_Mo_interval_92 (by decide) ?_
        refine V.lsub d_Mo_interval_93 ?_
        obtain ⟨g120, hq⟩ := hq
        obtain ⟨g121, hq⟩ := hq
        obtain ⟨g122, hq⟩ := hq
        refine V.lastore d_Mo_interval_94 g120 g121 g122 ?_
        replace hq := hq _ rfl
        refine V.aload_n d_Mo_interval_95 rfl ?_
        refine V.get2 d_Mo_interval_96 rfl (List.mem_singleton.mpr g1) ?_
        refine V.iload_n d_Mo_interval_99 rfl ?_
        obtain ⟨g124, hq⟩ := hq
        obtain ⟨g125, hq⟩ := hq
        refine V.iaload d_Mo_interval_100 g124 g125 ?_
        refine V.bipush (x := 60) d_Mo_interval_101 (by decide) ?_
        refine V.ic_ne (t := 140) d_Mo_interval_103 ⟨rfl, rfl⟩ (fun hc => ?_) (fun hc => ?_)
        · replace hq := ifp hc hq
          refine V.aload_n d_Mo_interval_106 rfl ?_
          refine V.get2 d_Mo_interval_107 rfl (List.mem_singleton.mpr g1) ?_
          refine V.iload_n d_Mo_interval_110 rfl ?_
          obtain ⟨g126, hq⟩ := hq
          obtain ⟨g127, hq⟩ := hq
          refine V.iaload d_Mo_interval_111 g126 g127 ?_
          refine V.iconst (x := 1) d_Mo_interval_112 (by decide) ?_
          refine V.isub d_Mo_interval_113 ?_
          refine V.i2l d_Mo_interval_114 ?_
          refine V.aload_n d_Mo_interval_115 rfl ?_
          refine V.get2 d_Mo_interval_116 rfl (List.mem_singleton.mpr g1) ?_
          refine V.iload_n d_Mo_interval_119 rfl ?_
          obtain ⟨g128, hq⟩ := hq
          obtain ⟨g129, hq⟩ := hq
          refine V.laload d_Mo_interval_120 g128 g129 ?_
          refine V.lc_ge d_Mo_interval_121 d_Mo_interval_122 ⟨rfl, rfl⟩ (fun hc => ?_) (fun hc => ?_)
          · replace hq := ifp hc hq
            refine V.aload_n d_Mo_interval_125 rfl ?_
            refine V.get2 d_Mo_interval_126 rfl (List.mem_singleton.mpr g1) ?_
            refine V.iload_n d_Mo_interval_129 rfl ?_
            refine V.aload_n d_Mo_interval_130 rfl ?_
            refine V.get2 d_Mo_interval_131 rfl (List.mem_singleton.mpr g1) ?_
            refine V.iload_n d_Mo_interval_134 rfl ?_
            refine V.iaload d_Mo_interval_135 g126 g127 ?_
            refine V.iconst (x := 1) d_Mo_interval_136 (by decide) ?_
            refine V.isub d_Mo_interval_137 ?_
            refine V.i2l d_Mo_interval_138 ?_
            obtain ⟨g130, hq⟩ := hq
            refine V.lastore d_Mo_interval_139 g128 g130 g129 ?_
            replace hq := hq _ rfl
            exact hq
          · replace hq := ifn hc hq
            exact hq
        · replace hq := ifn hc hq
          exact hq
theorem w_Mo_interval_140 {d : Nat} {K : Hp → Prop} {x0 : Nat} {x1 : Int32} {y2 : Option Value} {y3 : Option Value} {y4 : Option Value} {h0 : Hp} (hq :
  ((hS h0 x0).1 = 8 ∧ ((hS h0 (hR h0 x0 14)).1 = 20 ∧ (ainr x1 (hS h0 (hR h0 x0 14)).2 = true ∧ (if (hI h0 (hR h0 x0 14) x1.toNatClampNeg) = (62 : Int32) then ((hS h0 (hR h0 x0 15)).1 = 20 ∧ (ainr x1 (hS h0 (hR h0 x0 15)).2 = true ∧ ((hS h0 (hR h0 x0 29)).1 = 21 ∧ (ainr x1 (hS h0 (hR h0 x0 29)).2 = true ∧ (if (hL h0 (hR h0 x0 29) x1.toNatClampNeg) < (((hI h0 (hR h0 x0 15) x1.toNatClampNeg) + (1 : Int32)).toInt64) then (¬ (hR h0 x0 29) = 1 ∧ (∀ h140 : Hp, h140 = sL h0 (hR h0 x0 29) x1.toNatClampNeg (((hI h0 (hR h0 x0 15) x1.toNatClampNeg) + (1 : Int32)).toInt64) → Wp d m_Mo_interval 185 [some (.ref x0), some (.int x1), y2, y3, y4] [] h140 (QV K))) else Wp d m_Mo_interval 185 [some (.ref x0), some (.int x1), y2, y3, y4] [] h0 (QV K)))))) else Wp d m_Mo_interval 185 [some (.ref x0), some (.int x1), y2, y3, y4] [] h0 (QV K)))))) : Wp d m_Mo_interval 140 [some (.ref x0), some (.int x1), y2, y3, y4] [] h0 (QV K) := by
  refine V.aload_n d_Mo_interval_140 rfl ?_
  obtain ⟨g132, hq⟩ := hq
  refine V.get2 d_Mo_interval_141 rfl (List.mem_singleton.mpr g132) ?_
  refine V.iload_n d_Mo_interval_144 rfl ?_
  obtain ⟨g133, hq⟩ := hq
  obtain ⟨g134, hq⟩ := hq
  refine V.iaload d_Mo_interval_145 g133 g134 ?_
  refine V.bipush (x := 62) d_Mo_interval_146 (by decide) ?_
  refine V.ic_ne (t := 185) d_Mo_interval_148 ⟨rfl, rfl⟩ (fun hc => ?_) (fun hc => ?_)
  · replace hq := ifp hc hq
    refine V.aload_n d_Mo_interval_151 rfl ?_
    refine V.get2 d_Mo_interval_152 rfl (List.mem_singleton.mpr g132) ?_
    refine V.iload_n d_Mo_interval_155 rfl ?_
    obtain ⟨g135, hq⟩ := hq
    obtain ⟨g136, hq⟩ := hq
    refine V.iaload d_Mo_interval_156 g135 g136 ?_
    refine V.iconst (x := 1) d_Mo_interval_157 (by decide) ?_
    refine V.iadd d_Mo_interval_158 ?_
    refine V.i2l d_Mo_interval_159 ?_
    refine V.aload_n d_Mo_interval_160 rfl ?_
    refine V.get2 d_Mo_interval_161 rfl (List.mem_singleton.mpr g132) ?_
    refine V.iload_n d_Mo_interval_164 rfl ?_
    obtain ⟨g137, hq⟩ := hq
    obtain ⟨g138, hq⟩ := hq
    refine V.laload d_Mo_interval_165 g137 g138 ?_
    refine V.lc_le d_Mo_interval_166 d_Mo_interval_167 ⟨rfl, rfl⟩ (fun hc => ?_) (fun hc => ?_)
    · replace hq := ifp hc hq
      refine V.aload_n d_Mo_interval_170 rfl ?_
      refine V.get2 d_Mo_interval_171 rfl (List.mem_singleton.mpr g132) ?_
      refine V.iload_n d_Mo_interval_174 rfl ?_
      refine V.aload_n d_Mo_interval_175 rfl ?_
      refine V.get2 d_Mo_interval_176 rfl (List.mem_singleton.mpr g132) ?_
      refine V.iload_n d_Mo_interval_179 rfl ?_
      refine V.iaload d_Mo_interval_180 g135 g136 ?_
      refine V.iconst (x := 1) d_Mo_interval_181 (by decide) ?_
      refine V.iadd d_Mo_interval_182 ?_
      refine V.i2l d_Mo_interval_183 ?_
      obtain ⟨g139, hq⟩ := hq
      refine V.lastore d_Mo_interval_184 g137 g139 g138 ?_
      replace hq := hq _ rfl
      exact hq
    · replace hq := ifn hc hq
      exact hq
  · replace hq := ifn hc hq
    exact hq
theorem w_Mo_interval_185 {d : Nat} {K : Hp → Prop} {x0 : Nat} {x1 : Int32} {y2 : Option Value} {y3 : Option Value} {y4 : Option Value} {h0 : Hp} (hq :
  ((hS h0 x0).1 = 8 ∧ ((hS h0 (hR h0 x0 14)).1 = 20 ∧ (ainr x1 (hS h0 (hR h0 x0 14)).2 = true ∧ (if (hI h0 (hR h0 x0 14) x1.toNatClampNeg) = (61 : Int32) then ((hS h0 (hR h0 x0 15)).1 = 20 ∧ (ainr x1 (hS h0 (hR h0 x0 15)).2 = true ∧ ((hS h0 (hR h0 x0 29)).1 = 21 ∧ (ainr x1 (hS h0 (hR h0 x0 29)).2 = true ∧ (if (hL h0 (hR h0 x0 29) x1.toNatClampNeg) < ((hI h0 (hR h0 x0 15) x1.toNatClampNeg).toInt64) then (¬ (hR h0 x0 29) = 1 ∧ (∀ h149 : Hp, h149 = sL h0 (hR h0 x0 29) x1.toNatClampNeg ((hI h0 (hR h0 x0 15) x1.toNatClampNeg).toInt64) → Wp d m_Mo_interval 226 [some (.ref x0), some (.int x1), y2, y3, y4] [] h149 (QV K))) else Wp d m_Mo_interval 226 [some (.ref x0), some (.int x1), y2, y3, y4] [] h0 (QV K)))))) else K h0))))) : Wp d m_Mo_interval 185 [some (.ref x0), some (.int x1), y2, y3, y4] [] h0 (QV K) := by
  refine V.aload_n d_Mo_interval_185 rfl ?_
  obtain ⟨g141, hq⟩ := hq
  refine V.get2 d_Mo_interval_186 rfl (List.mem_singleton.mpr g141) ?_
  refine V.iload_n d_Mo_interval_189 rfl ?_
  obtain ⟨g142, hq⟩ := hq
  obtain ⟨g143, hq⟩ := hq
  refine V.iaload d_Mo_interval_190 g142 g143 ?_
  refine V.bipush (x := 61) d_Mo_interval_191 (by decide) ?_
  refine V.ic_ne (t := 256) d_Mo_interval_193 ⟨rfl, rfl⟩ (fun hc => ?_) (fun hc => ?_)
  · replace hq := ifp hc hq
    refine V.aload_n d_Mo_interval_196 rfl ?_
    refine V.get2 d_Mo_interval_197 rfl (List.mem_singleton.mpr g141) ?_
    refine V.iload_n d_Mo_interval_200 rfl ?_
    obtain ⟨g144, hq⟩ := hq
    obtain ⟨g145, hq⟩ := hq
    refine V.iaload d_Mo_interval_201 g144 g145 ?_
    refine V.i2l d_Mo_interval_202 ?_
    refine V.aload_n d_Mo_interval_203 rfl ?_
    refine V.get2 d_Mo_interval_204 rfl (List.mem_singleton.mpr g141) ?_
    refine V.iload_n d_Mo_interval_207 rfl ?_
    obtain ⟨g146, hq⟩ := hq
    obtain ⟨g147, hq⟩ := hq
    refine V.laload d_Mo_interval_208 g146 g147 ?_
    refine V.lc_le d_Mo_interval_209 d_Mo_interval_210 ⟨rfl, rfl⟩ (fun hc => ?_) (fun hc => ?_)
    · replace hq := ifp hc hq
      refine V.aload_n d_Mo_interval_213 rfl ?_
      refine V.get2 d_Mo_interval_214 rfl (List.mem_singleton.mpr g141) ?_
      refine V.iload_n d_Mo_interval_217 rfl ?_
      refine V.aload_n d_Mo_interval_218 rfl ?_
      refine V.get2 d_Mo_interval_219 rfl (List.mem_singleton.mpr g141) ?_
      refine V.iload_n d_Mo_interval_222 rfl ?_
      refine V.iaload d_Mo_interval_223 g144 g145 ?_
      refine V.i2l d_Mo_interval_224 ?_
      obtain ⟨g148, hq⟩ := hq
      refine V.lastore d_Mo_interval_225 g146 g148 g147 ?_
      replace hq := hq _ rfl
      exact hq
    · replace hq := ifn hc hq
      exact hq
  · replace hq := ifn hc hq
    refine V.vret d_Mo_interval_256 rfl ?_
    exact V.rV hq
theorem w_Mo_interval_226 {d : Nat} {K : Hp → Prop} {x0 : Nat} {x1 : Int32} {y2 : Option Value} {y3 : Option Value} {y4 : Option Value} {h0 : Hp} (hq :
  ((hS h0 x0).1 = 8 ∧ ((hS h0 (hR h0 x0 15)).1 = 20 ∧ (ainr x1 (hS h0 (hR h0 x0 15)).2 = true ∧ ((hS h0 (hR h0 x0 30)).1 = 21 ∧ (ainr x1 (hS h0 (hR h0 x0 30)).2 = true ∧ (if ((hI h0 (hR h0 x0 15) x1.toNatClampNeg).toInt64) < (hL h0 (hR h0 x0 30) x1.toNatClampNeg) then (¬ (hR h0 x0 30) = 1 ∧ (∀ h156 : Hp, h156 = sL h0 (hR h0 x0 30) x1.toNatClampNeg ((hI h0 (hR h0 x0 15) x1.toNatClampNeg).toInt64) → K h156)) else K h0))))))) : Wp d m_Mo_interval 226 [some (.ref x0), some (.int x1), y2, y3, y4] [] h0 (QV K) := by
  refine V.aload_n d_Mo_interval_226 rfl ?_
  obtain ⟨g150, hq⟩ := hq
  refine V.get2 d_Mo_interval_227 rfl (List.mem_singleton.mpr g150) ?_
  refine V.iload_n d_Mo_interval_230 rfl ?_
  obtain ⟨g151, hq⟩ := hq
  obtain ⟨g152, hq⟩ := hq
  refine V.iaload d_Mo_interval_231 g151 g152 ?_
  refine V.i2l d_Mo_interval_232 ?_
  refine V.aload_n d_Mo_interval_233 rfl ?_
  refine V.get2 d_Mo_interval_234 rfl (List.mem_singleton.mpr g150) ?_
  refine V.iload_n d_Mo_interval_237 rfl ?_
  obtain ⟨g153, hq⟩ := hq
  obtain ⟨g154, hq⟩ := hq
  refine V.laload d_Mo_interval_238 g153 g154 ?_
  refine V.lc_ge d_Mo_interval_239 d_Mo_interval_240 ⟨rfl, rfl⟩ (fun hc => ?_) (fun hc => ?_)
  · replace hq := ifp hc hq
    refine V.aload_n d_Mo_interval_243 rfl ?_
    refine V.get2 d_Mo_interval_244 rfl (List.mem_singleton.mpr g150) ?_
    refine V.iload_n d_Mo_interval_247 rfl ?_
    refine V.aload_n d_Mo_interval_248 rfl ?_
    refine V.get2 d_Mo_interval_249 rfl (List.mem_singleton.mpr g150) ?_
    refine V.iload_n d_Mo_interval_252 rfl ?_
    refine V.iaload d_Mo_interval_253 g151 g152 ?_
    refine V.i2l d_Mo_interval_254 ?_
    obtain ⟨g155, hq⟩ := hq
    refine V.lastore d_Mo_interval_255 g153 g155 g154 ?_
    replace hq := hq _ rfl
    refine V.vret d_Mo_interval_256 rfl ?_
    exact V.rV hq
  · replace hq := ifn hc hq
    refine V.vret d_Mo_interval_256 rfl ?_
    exact V.rV hq
theorem w_Mo_find {d : Nat} {K : Int32 → Hp → Prop} {x0 : Nat} {x1 : Int32} {h0 : Hp} (hq :
  Wp (d + 1) m_Mo_find 2 [some (.ref x0), some (.int x1), some (.int x1), none, none] [] h0 (QI K)) : Ca (d + 1) m_Mo_find [.ref x0, .int x1] h0 (QI K) := by
  show Wp _ _ 0 [some (.ref x0), some (.int x1), none, none, none] [] h0 _
  refine V.iload_n d_Mo_find_0 rfl ?_
  refine V.istore_n (l' := [_, _, _, _, _]) d_Mo_find_1 rfl (ltb rfl) ?_
  exact hq
theorem w_Mo_find_2 {d : Nat} {K : Int32 → Hp → Prop} {x0 : Nat} {x1 : Int32} {x2 : Int32} {y3 : Option Value} {y4 : Option Value} {h0 : Hp} (hq :
  (if x2 < 0 then K (-1 : Int32) h0 else ((hS h0 x0).1 = 8 ∧ ((hS h0 (hR h0 x0 19)).1 = 20 ∧ (ainr x2 (hS h0 (hR h0 x0 19)).2 = true ∧ (∀ v4 : Int32, v4 = (hI h0 (hR h0 x0 19) x2.toNatClampNeg) → (if v4 < 0 then Wp (d + 1) m_Mo_find 2 [some (.ref x0), some (.int x1), some (.int v4), some (.int v4), y4] [] h0 (QI K) else ((hS h0 (hR h0 x0 12)).1 = 20 ∧ (ainr v4 (hS h0 (hR h0 x0 12)).2 = true ∧ (if (hI h0 (hR h0 x0 12) v4.toNatClampNeg) = (123 : Int32) then ((hS h0 (hR h0 x0 22)).1 = 20 ∧ (ainr x2 (hS h0 (hR h0 x0 22)).2 = true ∧ (∀ v9 : Int32, v9 = (hI h0 (hR h0 x0 22) x2.toNatClampNeg) → Wp (d + 1) m_Mo_find 36 [some (.ref x0), some (.int x1), some (.int x2), some (.int v4), some (.int v9)] [] h0 (QI K)))) else Wp (d + 1) m_Mo_find 2 [some (.ref x0), some (.int x1), some (.int v4), some (.int v4), y4] [] h0 (QI K))))))))))) : Wp (d + 1) m_Mo_find 2 [some (.ref x0), some (.int x1), some (.int x2), y3, y4] [] h0 (QI K) := by
  refine V.iload_n d_Mo_find_2 rfl ?_
  refine V.if_lt (t := 91) d_Mo_find_3 ⟨rfl, rfl⟩ (fun hc => ?_) (fun hc => ?_)
  · replace hq := ifp hc hq
    refine V.iconst (x := -1) d_Mo_find_91 (by decide) ?_
    refine V.iret d_Mo_find_92 rfl ?_
    exact V.rI hq
  · replace hq := ifn hc hq
    refine V.aload_n d_Mo_find_6 rfl ?_
    obtain ⟨g1, hq⟩ := hq
    refine V.get2 d_Mo_find_7 rfl (List.mem_singleton.mpr g1) ?_
    refine V.iload_n d_Mo_find_10 rfl ?_
    obtain ⟨g2, hq⟩ := hq
    obtain ⟨g3, hq⟩ := hq
    refine V.iaload d_Mo_find_11 g2 g3 ?_
    replace hq := hq _ rfl
    refine V.istore_n (l' := [_, _, _, _, _]) d_Mo_find_12 rfl (ltb rfl) ?_
    refine V.iload_n d_Mo_find_13 rfl ?_
    refine V.if_lt (t := 86) d_Mo_find_14 ⟨rfl, rfl⟩ (fun hc => ?_) (fun hc => ?_)
    · replace hq := ifp hc hq
      refine V.iload_n d_Mo_find_86 rfl ?_
      refine V.istore_n (l' := [_, _, _, _, _]) d_Mo_find_87 rfl (ltb rfl) ?_
      refine V.goto (t := 2) d_Mo_find_88 ⟨rfl, rfl⟩ ?_
      exact hq
    · replace hq := ifn hc hq
      refine V.aload_n d_Mo_find_17 rfl ?_
      refine V.get2 d_Mo_find_18 rfl (List.mem_singleton.mpr g1) ?_
      refine V.iload_n d_Mo_find_21 rfl ?_
      obtain ⟨g5, hq⟩ := hq
      obtain ⟨g6, hq⟩ := hq
      refine V.iaload d_Mo_find_22 g5 g6 ?_
      refine V.bipush (x := 123) d_Mo_find_23 (by decide) ?_
      refine V.ic_ne (t := 86) d_Mo_find_25 ⟨rfl, rfl⟩ (fun hc => ?_) (fun hc => ?_)
      · replace hq := ifp hc hq
        refine V.aload_n d_Mo_find_28 rfl ?_
        refine V.get2 d_Mo_find_29 rfl (List.mem_singleton.mpr g1) ?_
        refine V.iload_n d_Mo_find_32 rfl ?_
        obtain ⟨g7, hq⟩ := hq
        obtain ⟨g8, hq⟩ := hq
        refine V.iaload d_Mo_find_33 g7 g8 ?_
        replace hq := hq _ rfl
        refine V.istore (l' := [_, _, _, _, _]) d_Mo_find_34 rfl (ltb rfl) ?_
        exact hq
      · replace hq := ifn hc hq
        refine V.iload_n d_Mo_find_86 rfl ?_
        refine V.istore_n (l' := [_, _, _, _, _]) d_Mo_find_87 rfl (ltb rfl) ?_
        refine V.goto (t := 2) d_Mo_find_88 ⟨rfl, rfl⟩ ?_
        exact hq
theorem w_Mo_find_36 {d : Nat} {K : Int32 → Hp → Prop} {x0 : Nat} {x1 : Int32} {y2 : Option Value} {x3 : Int32} {x4 : Int32} {h0 : Hp} (hq :
  (if x4 < 0 then Wp (d + 1) m_Mo_find 2 [some (.ref x0), some (.int x1), some (.int x3), some (.int x3), some (.int x4)] [] h0 (QI K) else ((hS h0 x0).1 = 8 ∧ ((hS h0 (hR h0 x0 17)).1 = 20 ∧ (ainr x4 (hS h0 (hR h0 x0 17)).2 = true ∧ ((hS h0 (hR h0 x0 16)).1 = 20 ∧ (ainr x1 (hS h0 (hR h0 x0 16)).2 = true ∧ (if (hI h0 (hR h0 x0 17) x4.toNatClampNeg) = (hI h0 (hR h0 x0 16) x1.toNatClampNeg) then ((hS h0 (hR h0 x0 12)).1 = 20 ∧ (ainr x4 (hS h0 (hR h0 x0 12)).2 = true ∧ Ca d m_Mo_sized [.ref x0, .int (hI h0 (hR h0 x0 12) x4.toNatClampNeg)] h0 (QI (fun v17 h18 => (if v17 = 0 then ((hS h18 x0).1 = 8 ∧ ((hS h18 (hR h18 x0 22)).1 = 20 ∧ (ainr x4 (hS h18 (hR h18 x0 22)).2 = true ∧ (∀ v23 : Int32, v23 = (hI h18 (hR h18 x0 22) x4.toNatClampNeg) → Wp (d + 1) m_Mo_find 36 [some (.ref x0), some (.int x1), y2, some (.int x3), some (.int v23)] [] h18 (QI K))))) else K x4 h18))))) else ((hS h0 (hR h0 x0 22)).1 = 20 ∧ (ainr x4 (hS h0 (hR h0 x0 22)).2 = true ∧ (∀ v26 : Int32, v26 = (hI h0 (hR h0 x0 22) x4.toNatClampNeg) → Wp (d + 1) m_Mo_find 36 [some (.ref x0), some (.int x1), y2, some (.int x3), some (.int v26)] [] h0 (QI K)))))))))))) : Wp (d + 1) m_Mo_find 36 [some (.ref x0), some (.int x1), y2, some (.int x3), some (.int x4)] [] h0 (QI K) := by
  refine V.iload d_Mo_find_36 rfl ?_
  refine V.if_lt (t := 86) d_Mo_find_38 ⟨rfl, rfl⟩ (fun hc => ?_) (fun hc => ?_)
  · replace hq := ifp hc hq
    refine V.iload_n d_Mo_find_86 rfl ?_
    refine V.istore_n (l' := [_, _, _, _, _]) d_Mo_find_87 rfl (ltb rfl) ?_
    refine V.goto (t := 2) d_Mo_find_88 ⟨rfl, rfl⟩ ?_
    exact hq
  · replace hq := ifn hc hq
    refine V.aload_n d_Mo_find_41 rfl ?_
    obtain ⟨g10, hq⟩ := hq
    refine V.get2 d_Mo_find_42 rfl (List.mem_singleton.mpr g10) ?_
    refine V.iload d_Mo_find_45 rfl ?_
    obtain ⟨g11, hq⟩ := hq
    obtain ⟨g12, hq⟩ := hq
    refine V.iaload d_Mo_find_47 g11 g12 ?_
    refine V.aload_n d_Mo_find_48 rfl ?_
    refine V.get2 d_Mo_find_49 rfl (List.mem_singleton.mpr g10) ?_
    refine V.iload_n d_Mo_find_52 rfl ?_
    obtain ⟨g13, hq⟩ := hq
    obtain ⟨g14, hq⟩ := hq
    refine V.iaload d_Mo_find_53 g13 g14 ?_
    refine V.ic_ne (t := 74) d_Mo_find_54 ⟨rfl, rfl⟩ (fun hc => ?_) (fun hc => ?_)
    · replace hq := ifp hc hq
      refine V.aload_n d_Mo_find_57 rfl ?_
      refine V.aload_n d_Mo_find_58 rfl ?_
      refine V.get2 d_Mo_find_59 rfl (List.mem_singleton.mpr g10) ?_
      refine V.iload d_Mo_find_62 rfl ?_
      obtain ⟨g15, hq⟩ := hq
      obtain ⟨g16, hq⟩ := hq
      refine V.iaload d_Mo_find_64 g15 g16 ?_
      refine V.callI d_Mo_find_65 (cV_call (t := [_]) (rs := []) rfl (Or.inl rfl) rfl (lk1 g10) ⟨leb rfl, leb rfl⟩) hq (fun v17 h18 hq => ?_)
      refine V.if_eq (t := 74) d_Mo_find_68 ⟨rfl, rfl⟩ (fun hc => ?_) (fun hc => ?_)
      · replace hq := ifp hc hq
        refine V.aload_n d_Mo_find_74 rfl ?_
        obtain ⟨g20, hq⟩ := hq
        refine V.get2 d_Mo_find_75 rfl (List.mem_singleton.mpr g20) ?_
        refine V.iload d_Mo_find_78 rfl ?_
        obtain ⟨g21, hq⟩ := hq
        obtain ⟨g22, hq⟩ := hq
        refine V.iaload d_Mo_find_80 g21 g22 ?_
        replace hq := hq _ rfl
        refine V.istore (l' := [_, _, _, _, _]) d_Mo_find_81 rfl (ltb rfl) ?_
        refine V.goto (t := 36) d_Mo_find_83 ⟨rfl, rfl⟩ ?_
        exact hq
      · replace hq := ifn hc hq
        refine V.iload d_Mo_find_71 rfl ?_
        refine V.iret d_Mo_find_73 rfl ?_
        exact V.rI hq
    · replace hq := ifn hc hq
      refine V.aload_n d_Mo_find_74 rfl ?_
      refine V.get2 d_Mo_find_75 rfl (List.mem_singleton.mpr g10) ?_
      refine V.iload d_Mo_find_78 rfl ?_
      obtain ⟨g24, hq⟩ := hq
      obtain ⟨g25, hq⟩ := hq
      refine V.iaload d_Mo_find_80 g24 g25 ?_
      replace hq := hq _ rfl
      refine V.istore (l' := [_, _, _, _, _]) d_Mo_find_81 rfl (ltb rfl) ?_
      refine V.goto (t := 36) d_Mo_find_83 ⟨rfl, rfl⟩ ?_
      exact hq
