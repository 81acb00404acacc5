theorem w_Mo_set {d : Nat} {K : Int32 → Hp → Prop} {x0 : Nat} {x1 : Int32} {x2 : Int64} {h0 : Hp} (hq :
  ((hS h0 x0).1 = 8 ∧ (∀ h2 : Hp, h2 = sI h0 x0 0 (0 : Int32) → (if x1 < 0 then Ca d m_Mo_fail [.ref x0, .int (1 : Int32)] h2 (QI (fun v3 h4 => K v3 h4)) else (if (hI h2 x0 9) < x1 then Ca d m_Mo_fail [.ref x0, .int (1 : Int32)] h2 (QI (fun v6 h7 => K v6 h7)) else (if x1 = (hI h2 x0 9) then (if (hI h2 x0 9) = (160 : Int32) then Ca d m_Mo_fail [.ref x0, .int (2 : Int32)] h2 (QI (fun v9 h10 => K v9 h10)) else (∀ h12 : Hp, h12 = sI h2 x0 9 ((hI h2 x0 9) + (1 : Int32)) → ((hS h0 (hR h12 x0 8)).1 = 21 ∧ (¬ (hR h12 x0 8) = 1 ∧ (ainr x1 (hS h0 (hR h12 x0 8)).2 = true ∧ (∀ h16 : Hp, h16 = sL h12 (hR h12 x0 8) x1.toNatClampNeg x2 → K (hI h16 x0 9) h16)))))) else ((hS h0 (hR h2 x0 8)).1 = 21 ∧ (¬ (hR h2 x0 8) = 1 ∧ (ainr x1 (hS h0 (hR h2 x0 8)).2 = true ∧ (∀ h20 : Hp, h20 = sL h2 (hR h2 x0 8) x1.toNatClampNeg x2 → K (hI h20 x0 9) h20)))))))))) : Ca (d + 1) m_Mo_set [.ref x0, .int x1, .long x2] h0 (QI K) := by
  show Wp _ _ 0 [some (.ref x0), some (.int x1), some (.long x2), none] [] h0 _
  refine V.aload_n d_Mo_set_0 rfl ?_
  refine V.iconst (x := 0) d_Mo_set_1 (by decide) ?_
  obtain ⟨g1, hq⟩ := hq
  refine V.put0 d_Mo_set_2 rfl (Or.inl rfl) (List.mem_singleton.mpr g1) ?_
  replace hq := hq _ rfl
  refine V.iload_n d_Mo_set_5 rfl ?_
  refine V.if_lt (t := 17) d_Mo_set_6 ⟨rfl, rfl⟩ (fun hc => ?_) (fun hc => ?_)
  · replace hq := ifp hc hq
    refine V.aload_n d_Mo_set_17 rfl ?_
    refine V.iconst (x := 1) d_Mo_set_18 (by decide) ?_
    refine V.callI d_Mo_set_19 (cV_call (t := [_]) (rs := []) rfl (Or.inl rfl) rfl (lk1 g1) ⟨leb rfl, leb rfl⟩) hq (fun v3 h4 hq => ?_)
    refine V.iret d_Mo_set_22 rfl ?_
    exact V.rI hq
  · replace hq := ifn hc hq
    refine V.iload_n d_Mo_set_9 rfl ?_
    refine V.aload_n d_Mo_set_10 rfl ?_
    refine V.get0 d_Mo_set_11 rfl (List.mem_singleton.mpr g1) ?_
    refine V.ic_le (t := 23) d_Mo_set_14 ⟨rfl, rfl⟩ (fun hc => ?_) (fun hc => ?_)
    · replace hq := ifp hc hq
      refine V.aload_n d_Mo_set_17 rfl ?_
      refine V.iconst (x := 1) d_Mo_set_18 (by decide) ?_
      refine V.callI d_Mo_set_19 (cV_call (t := [_]) (rs := []) rfl (Or.inl rfl) rfl (lk1 g1) ⟨leb rfl, leb rfl⟩) hq (fun v6 h7 hq => ?_)
      refine V.iret d_Mo_set_22 rfl ?_
      exact V.rI hq
    · replace hq := ifn hc hq
      refine V.iload_n d_Mo_set_23 rfl ?_
      refine V.aload_n d_Mo_set_24 rfl ?_
      refine V.get0 d_Mo_set_25 rfl (List.mem_singleton.mpr g1) ?_
      refine V.ic_ne (t := 57) d_Mo_set_28 ⟨rfl, rfl⟩ (fun hc => ?_) (fun hc => ?_)
      · replace hq := ifp hc hq
        refine V.aload_n d_Mo_set_31 rfl ?_
        refine V.get0 d_Mo_set_32 rfl (List.mem_singleton.mpr g1) ?_
        refine V.sipush (x := 160) d_Mo_set_35 (by decide) ?_
        refine V.ic_ne (t := 47) d_Mo_set_38 ⟨rfl, rfl⟩ (fun hc => ?_) (fun hc => ?_)
        · replace hq := ifp hc hq
          refine V.aload_n d_Mo_set_41 rfl ?_
          refine V.iconst (x := 2) d_Mo_set_42 (by decide) ?_
          refine V.callI d_Mo_set_43 (cV_call (t := [_]) (rs := []) rfl (Or.inl rfl) rfl (lk1 g1) ⟨leb rfl, leb rfl⟩) hq (fun v9 h10 hq => ?_)
          refine V.iret d_Mo_set_46 rfl ?_
          exact V.rI hq
        · replace hq := ifn hc hq
          refine V.aload_n d_Mo_set_47 rfl ?_
          refine V.dupR d_Mo_set_48 ?_
          refine V.get0 d_Mo_set_49 rfl (List.mem_singleton.mpr g1) ?_
          refine V.iconst (x := 1) d_Mo_set_52 (by decide) ?_
          refine V.iadd d_Mo_set_53 ?_
          refine V.put0 d_Mo_set_54 rfl (Or.inl rfl) (List.mem_singleton.mpr g1) ?_
          replace hq := hq _ rfl
          refine V.aload_n d_Mo_set_57 rfl ?_
          refine V.get2 d_Mo_set_58 rfl (List.mem_singleton.mpr g1) ?_
          refine V.iload_n d_Mo_set_61 rfl ?_
          refine V.lload_n d_Mo_set_62 rfl ?_
          obtain ⟨g13, hq⟩ := hq
          obtain ⟨g14, hq⟩ := hq
          obtain ⟨g15, hq⟩ := hq
          refine V.lastore d_Mo_set_63 g13 g14 g15 ?_
          replace hq := hq _ rfl
          refine V.aload_n d_Mo_set_64 rfl ?_
          refine V.get0 d_Mo_set_65 rfl (List.mem_singleton.mpr g1) ?_
          refine V.iret d_Mo_set_68 rfl ?_
          exact V.rI hq
      · replace hq := ifn hc hq
        refine V.aload_n d_Mo_set_57 rfl ?_
        refine V.get2 d_Mo_set_58 rfl (List.mem_singleton.mpr g1) ?_
        refine V.iload_n d_Mo_set_61 rfl ?_
        refine V.lload_n d_Mo_set_62 rfl ?_
        obtain ⟨g17, hq⟩ := hq
        obtain ⟨g18, hq⟩ := hq
        obtain ⟨g19, hq⟩ := hq
        refine V.lastore d_Mo_set_63 g17 g18 g19 ?_
        replace hq := hq _ rfl
        refine V.aload_n d_Mo_set_64 rfl ?_
        refine V.get0 d_Mo_set_65 rfl (List.mem_singleton.mpr g1) ?_
        refine V.iret d_Mo_set_68 rfl ?_
        exact V.rI hq
theorem w_Mo_drop {d : Nat} {K : Int32 → Hp → Prop} {x0 : Nat} {x1 : Int32} {x2 : Int32} {h0 : Hp} (hq :
  ((hS h0 x0).1 = 8 ∧ (∀ h2 : Hp, h2 = sI h0 x0 0 (0 : Int32) → (if x1 < 0 then Ca d m_Mo_fail [.ref x0, .int (1 : Int32)] h2 (QI (fun v3 h4 => K v3 h4)) else (if x2 < 0 then Ca d m_Mo_fail [.ref x0, .int (1 : Int32)] h2 (QI (fun v6 h7 => K v6 h7)) else (if (hI h2 x0 9) < x1 then Ca d m_Mo_fail [.ref x0, .int (1 : Int32)] h2 (QI (fun v9 h10 => K v9 h10)) else (if ((hI h2 x0 9) - x1) < x2 then Ca d m_Mo_fail [.ref x0, .int (1 : Int32)] h2 (QI (fun v12 h13 => K v12 h13)) else (∀ v15 : Int32, v15 = (x1 + x2) → Wp (d + 1) m_Mo_drop 41 [some (.ref x0), some (.int x1), some (.int x2), some (.int v15)] [] h2 (QI K))))))))) : Ca (d + 1) m_Mo_drop [.ref x0, .int x1, .int x2] h0 (QI K) := by
  show Wp _ _ 0 [some (.ref x0), some (.int x1), some (.int x2), none] [] h0 _
  refine V.aload_n d_Mo_drop_0 rfl ?_
  refine V.iconst (x := 0) d_Mo_drop_1 (by decide) ?_
  obtain ⟨g1, hq⟩ := hq
  refine V.put0 d_Mo_drop_2 rfl (Or.inl rfl) (List.mem_singleton.mpr g1) ?_
  replace hq := hq _ rfl
  refine V.iload_n d_Mo_drop_5 rfl ?_
  refine V.if_lt (t := 31) d_Mo_drop_6 ⟨rfl, rfl⟩ (fun hc => ?_) (fun hc => ?_)
  · replace hq := ifp hc hq
    refine V.aload_n d_Mo_drop_31 rfl ?_
    refine V.iconst (x := 1) d_Mo_drop_32 (by decide) ?_
    refine V.callI d_Mo_drop_33 (cV_call (t := [_]) (rs := []) rfl (Or.inl rfl) rfl (lk1 g1) ⟨leb rfl, leb rfl⟩) hq (fun v3 h4 hq => ?_)
    refine V.iret d_Mo_drop_36 rfl ?_
    exact V.rI hq
  · replace hq := ifn hc hq
    refine V.iload_n d_Mo_drop_9 rfl ?_
    refine V.if_lt (t := 31) d_Mo_drop_10 ⟨rfl, rfl⟩ (fun hc => ?_) (fun hc => ?_)
    · replace hq := ifp hc hq
      refine V.aload_n d_Mo_drop_31 rfl ?_
      refine V.iconst (x := 1) d_Mo_drop_32 (by decide) ?_
      refine V.callI d_Mo_drop_33 (cV_call (t := [_]) (rs := []) rfl (Or.inl rfl) rfl (lk1 g1) ⟨leb rfl, leb rfl⟩) hq (fun v6 h7 hq => ?_)
      refine V.iret d_Mo_drop_36 rfl ?_
      exact V.rI hq
    · replace hq := ifn hc hq
      refine V.iload_n d_Mo_drop_13 rfl ?_
      refine V.aload_n d_Mo_drop_14 rfl ?_
      refine V.get0 d_Mo_drop_15 rfl (List.mem_singleton.mpr g1) ?_
      refine V.ic_gt (t := 31) d_Mo_drop_18 ⟨rfl, rfl⟩ (fun hc => ?_) (fun hc => ?_)
      · replace hq := ifp hc hq
        refine V.aload_n d_Mo_drop_31 rfl ?_
        refine V.iconst (x := 1) d_Mo_drop_32 (by decide) ?_
        refine V.callI d_Mo_drop_33 (cV_call (t := [_]) (rs := []) rfl (Or.inl rfl) rfl (lk1 g1) ⟨leb rfl, leb rfl⟩) hq (fun v9 h10 hq => ?_)
        refine V.iret d_Mo_drop_36 rfl ?_
        exact V.rI hq
      · replace hq := ifn hc hq
        refine V.iload_n d_Mo_drop_21 rfl ?_
        refine V.aload_n d_Mo_drop_22 rfl ?_
        refine V.get0 d_Mo_drop_23 rfl (List.mem_singleton.mpr g1) ?_
        refine V.iload_n d_Mo_drop_26 rfl ?_
        refine V.isub d_Mo_drop_27 ?_
        refine V.ic_le (t := 37) d_Mo_drop_28 ⟨rfl, rfl⟩ (fun hc => ?_) (fun hc => ?_)
        · replace hq := ifp hc hq
          refine V.aload_n d_Mo_drop_31 rfl ?_
          refine V.iconst (x := 1) d_Mo_drop_32 (by decide) ?_
          refine V.callI d_Mo_drop_33 (cV_call (t := [_]) (rs := []) rfl (Or.inl rfl) rfl (lk1 g1) ⟨leb rfl, leb rfl⟩) hq (fun v12 h13 hq => ?_)
          refine V.iret d_Mo_drop_36 rfl ?_
          exact V.rI hq
        · replace hq := ifn hc hq
          refine V.iload_n d_Mo_drop_37 rfl ?_
          refine V.iload_n d_Mo_drop_38 rfl ?_
          refine V.iadd d_Mo_drop_39 ?_
          replace hq := hq _ rfl
          refine V.istore_n (l' := [_, _, _, _]) d_Mo_drop_40 rfl (ltb rfl) ?_
          exact hq
theorem w_Mo_drop_41 {d : Nat} {K : Int32 → Hp → Prop} {x0 : Nat} {y1 : Option Value} {x2 : Int32} {x3 : Int32} {h0 : Hp} (hq :
  ((hS h0 x0).1 = 8 ∧ (if x3 < (hI h0 x0 9) then ((hS h0 (hR h0 x0 8)).1 = 21 ∧ (ainr x3 (hS h0 (hR h0 x0 8)).2 = true ∧ (¬ (hR h0 x0 8) = 1 ∧ (ainr (x3 - x2) (hS h0 (hR h0 x0 8)).2 = true ∧ (∀ h21 : Hp, h21 = sL h0 (hR h0 x0 8) (x3 - x2).toNatClampNeg (hL h0 (hR h0 x0 8) x3.toNatClampNeg) → (∀ v22 : Int32, v22 = (x3 + 1) → Wp (d + 1) m_Mo_drop 41 [some (.ref x0), y1, some (.int x2), some (.int v22)] [] h21 (QI K))))))) else (∀ h23 : Hp, h23 = sI h0 x0 9 ((hI h0 x0 9) - x2) → K (hI h23 x0 9) h23)))) : Wp (d + 1) m_Mo_drop 41 [some (.ref x0), y1, some (.int x2), some (.int x3)] [] h0 (QI K) := by
  refine V.iload_n d_Mo_drop_41 rfl ?_
  refine V.aload_n d_Mo_drop_42 rfl ?_
  obtain ⟨g16, hq⟩ := hq
  refine V.get0 d_Mo_drop_43 rfl (List.mem_singleton.mpr g16) ?_
  refine V.ic_ge (t := 69) d_Mo_drop_46 ⟨rfl, rfl⟩ (fun hc => ?_) (fun hc => ?_)
  · replace hq := ifp hc hq
    refine V.aload_n d_Mo_drop_49 rfl ?_
    refine V.get2 d_Mo_drop_50 rfl (List.mem_singleton.mpr g16) ?_
    refine V.iload_n d_Mo_drop_53 rfl ?_
    refine V.iload_n d_Mo_drop_54 rfl ?_
    refine V.isub d_Mo_drop_55 ?_
    refine V.aload_n d_Mo_drop_56 rfl ?_
    refine V.get2 d_Mo_drop_57 rfl (List.mem_singleton.mpr g16) ?_
    refine V.iload_n d_Mo_drop_60 rfl ?_
    obtain ⟨g17, hq⟩ := hq
    obtain ⟨g18, hq⟩ := hq
    refine V.laload d_Mo_drop_61 g17 g18 ?_
    obtain ⟨g19, hq⟩ := hq
    obtain ⟨g20, hq⟩ := hq
    refine V.lastore d_Mo_drop_62 g17 g19 g20 ?_
    replace hq := hq _ rfl
    replace hq := hq _ rfl
    refine V.iinc (l' := [_, _, _, _]) d_Mo_drop_63 rfl (show _ + _ = _ + (1 : Int32) from rfl) rfl ?_
    refine V.goto (t := 41) d_Mo_drop_66 ⟨rfl, rfl⟩ ?_
    exact hq
  · replace hq := ifn hc hq
    refine V.aload_n d_Mo_drop_69 rfl ?_
    refine V.dupR d_Mo_drop_70 ?_
    refine V.get0 d_Mo_drop_71 rfl (List.mem_singleton.mpr g16) ?_
    refine V.iload_n d_Mo_drop_74 rfl ?_
    refine V.isub d_Mo_drop_75 ?_
    refine V.put0 d_Mo_drop_76 rfl (Or.inl rfl) (List.mem_singleton.mpr g16) ?_
    replace hq := hq _ rfl
    refine V.aload_n d_Mo_drop_79 rfl ?_
    refine V.get0 d_Mo_drop_80 rfl (List.mem_singleton.mpr g16) ?_
    refine V.iret d_Mo_drop_83 rfl ?_
    exact V.rI hq
theorem w_Mo_byteAt {d : Nat} {K : Int32 → Hp → Prop} {x0 : Nat} {x1 : Int32} {h0 : Hp} (hq :
  ((hS h0 x0).1 = 8 ∧ (∀ h2 : Hp, h2 = sI h0 x0 0 (0 : Int32) → Ca d m_Mo_out [.ref x0, .int x1, .int (hI h2 x0 7)] h2 (QI (fun v3 h4 => (if v3 = 0 then ((hS h4 x0).1 = 8 ∧ ((hS h4 (hR h4 x0 6)).1 = 20 ∧ (ainr x1 (hS h4 (hR h4 x0 6)).2 = true ∧ K (hI h4 (hR h4 x0 6) x1.toNatClampNeg) h4))) else ((hS h4 x0).1 = 8 ∧ Ca d m_Mo_fail [.ref x0, .int (1 : Int32)] h4 (QI (fun v10 h11 => K v10 h11))))))))) : Ca (d + 1) m_Mo_byteAt [.ref x0, .int x1] h0 (QI K) := by
  show Wp _ _ 0 [some (.ref x0), some (.int x1)] [] h0 _
  refine V.aload_n d_Mo_byteAt_0 rfl ?_
  refine V.iconst (x := 0) d_Mo_byteAt_1 (by decide) ?_
  obtain ⟨g1, hq⟩ := hq
  refine V.put0 d_Mo_byteAt_2 rfl (Or.inl rfl) (List.mem_singleton.mpr g1) ?_
  replace hq := hq _ rfl
  refine V.aload_n d_Mo_byteAt_5 rfl ?_
  refine V.iload_n d_Mo_byteAt_6 rfl ?_
  refine V.aload_n d_Mo_byteAt_7 rfl ?_
  refine V.get0 d_Mo_byteAt_8 rfl (List.mem_singleton.mpr g1) ?_
  refine V.callI d_Mo_byteAt_11 (cV_call (t := [_, _]) (rs := []) rfl (Or.inl rfl) rfl (lk1 g1) ⟨leb rfl, leb rfl⟩) hq (fun v3 h4 hq => ?_)
  refine V.if_eq (t := 25) d_Mo_byteAt_14 ⟨rfl, rfl⟩ (fun hc => ?_) (fun hc => ?_)
  · replace hq := ifp hc hq
    refine V.aload_n d_Mo_byteAt_25 rfl ?_
    obtain ⟨g6, hq⟩ := hq
    refine V.get2 d_Mo_byteAt_26 rfl (List.mem_singleton.mpr g6) ?_
    refine V.iload_n d_Mo_byteAt_29 rfl ?_
    obtain ⟨g7, hq⟩ := hq
    obtain ⟨g8, hq⟩ := hq
    refine V.iaload d_Mo_byteAt_30 g7 g8 ?_
    refine V.iret d_Mo_byteAt_31 rfl ?_
    exact V.rI hq
  · replace hq := ifn hc hq
    refine V.aload_n d_Mo_byteAt_17 rfl ?_
    refine V.iconst (x := 1) d_Mo_byteAt_18 (by decide) ?_
    obtain ⟨g9, hq⟩ := hq
    refine V.callI d_Mo_byteAt_19 (cV_call (t := [_]) (rs := []) rfl (Or.inl rfl) rfl (lk1 g9) ⟨leb rfl, leb rfl⟩) hq (fun v10 h11 hq => ?_)
    refine V.goto (t := 31) d_Mo_byteAt_22 ⟨rfl, rfl⟩ ?_
    refine V.iret d_Mo_byteAt_31 rfl ?_
    exact V.rI hq
theorem w_Mo_count {d : Nat} {K : Int32 → Hp → Prop} {x0 : Nat} {x1 : Int32} {h0 : Hp} (hq :
  ((hS h0 x0).1 = 8 ∧ (∀ h2 : Hp, h2 = sI h0 x0 0 (0 : Int32) → (if x1.toInt = 0 then K (hI h2 x0 2) h2 else (if x1.toInt = 1 then K (hI h2 x0 7) h2 else (if x1.toInt = 2 then K (hI h2 x0 9) h2 else (if x1.toInt = 3 then K (hI h2 x0 10) h2 else (if x1.toInt = 4 then K (hI h2 x0 11) h2 else (if x1.toInt = 5 then (if (hI h2 x0 5) = 0 then K (0 : Int32) h2 else K (1 : Int32) h2) else Ca d m_Mo_fail [.ref x0, .int (1 : Int32)] h2 (QI (fun v3 h4 => K v3 h4))))))))))) : Ca (d + 1) m_Mo_count [.ref x0, .int x1] h0 (QI K) := by
  show Wp _ _ 0 [some (.ref x0), some (.int x1)] [] h0 _
  refine V.aload_n d_Mo_count_0 rfl ?_
  refine V.iconst (x := 0) d_Mo_count_1 (by decide) ?_
  obtain ⟨g1, hq⟩ := hq
  refine V.put0 d_Mo_count_2 rfl (Or.inl rfl) (List.mem_singleton.mpr g1) ?_
  replace hq := hq _ rfl
  refine V.iload_n d_Mo_count_5 rfl ?_
  refine V.table d_Mo_count_6 ⟨rfl, rfl, rfl⟩ ?_
  refine swW_c (fun hc => ?_) (fun hc => ?_)
  · replace hq := ifp hc hq
    refine V.tg (t := 44) rfl ?_
    refine V.aload_n d_Mo_count_44 rfl ?_
    refine V.get0 d_Mo_count_45 rfl (List.mem_singleton.mpr g1) ?_
    refine V.iret d_Mo_count_48 rfl ?_
    exact V.rI hq
  · replace hq := ifn hc hq
    refine swW_c (fun hc => ?_) (fun hc => ?_)
    · replace hq := ifp hc hq
      refine V.tg (t := 49) rfl ?_
      refine V.aload_n d_Mo_count_49 rfl ?_
      refine V.get0 d_Mo_count_50 rfl (List.mem_singleton.mpr g1) ?_
      refine V.iret d_Mo_count_53 rfl ?_
      exact V.rI hq
    · replace hq := ifn hc hq
      refine swW_c (fun hc => ?_) (fun hc => ?_)
      · replace hq := ifp hc hq
        refine V.tg (t := 54) rfl ?_
        refine V.aload_n d_Mo_count_54 rfl ?_
        refine V.get0 d_Mo_count_55 rfl (List.mem_singleton.mpr g1) ?_
        refine V.iret d_Mo_count_58 rfl ?_
        exact V.rI hq
      · replace hq := ifn hc hq
        refine swW_c (fun hc => ?_) (fun hc => ?_)
        · replace hq := ifp hc hq
          refine V.tg (t := 59) rfl ?_
          refine V.aload_n d_Mo_count_59 rfl ?_
          refine V.get0 d_Mo_count_60 rfl (List.mem_singleton.mpr g1) ?_
          refine V.iret d_Mo_count_63 rfl ?_
          exact V.rI hq
        · replace hq := ifn hc hq
          refine swW_c (fun hc => ?_) (fun hc => ?_)
          · replace hq := ifp hc hq
            refine V.tg (t := 64) rfl ?_
            refine V.aload_n d_Mo_count_64 rfl ?_
            refine V.get0 d_Mo_count_65 rfl (List.mem_singleton.mpr g1) ?_
            refine V.iret d_Mo_count_68 rfl ?_
            exact V.rI hq
          · replace hq := ifn hc hq
            refine swW_c (fun hc => ?_) (fun hc => ?_)
            · replace hq := ifp hc hq
              refine V.tg (t := 69) rfl ?_
              refine V.aload_n d_Mo_count_69 rfl ?_
              refine V.get3 d_Mo_count_70 rfl (List.mem_singleton.mpr g1) ?_
              refine V.if_eq (t := 80) d_Mo_count_73 ⟨rfl, rfl⟩ (fun hc => ?_) (fun hc => ?_)
              · replace hq := ifp hc hq
                refine V.iconst (x := 0) d_Mo_count_80 (by decide) ?_
                refine V.iret d_Mo_count_81 rfl ?_
                exact V.rI hq
              · replace hq := ifn hc hq
                refine V.iconst (x := 1) d_Mo_count_76 (by decide) ?_
                refine V.goto (t := 81) d_Mo_count_77 ⟨rfl, rfl⟩ ?_
                refine V.iret d_Mo_count_81 rfl ?_
                exact V.rI hq
            · replace hq := ifn hc hq
              refine V.tg (t := 82) rfl ?_
              refine V.aload_n d_Mo_count_82 rfl ?_
              refine V.iconst (x := 1) d_Mo_count_83 (by decide) ?_
              refine V.callI d_Mo_count_84 (cV_call (t := [_]) (rs := []) rfl (Or.inl rfl) rfl (lk1 g1) ⟨leb rfl, leb rfl⟩) hq (fun v3 h4 hq => ?_)
              refine V.iret d_Mo_count_87 rfl ?_
              exact V.rI hq
