theorem w_Wr_init {d : Nat} {K : Hp → Prop} {x0 : Nat} {x1 : Nat} {x2 : Nat} {h0 : Hp} (hq :
  (((hS h0 x0).1 = 5 ∨ (hS h0 x0).1 = 6) ∧ Ca d m_Co_init [.ref x0] h0 (QV (fun h2 => ((hS h2 x0).1 = 6 ∧ (∀ h5 : Hp, h5 = sR h2 x0 3 x1 → (∀ h6 : Hp, h6 = sR h5 x0 4 x2 → (∀ h7 : Hp, h7 = sI h6 x0 5 (0 : Int32) → (∀ h8 : Hp, h8 = sL h7 x0 6 (0 : Int64) → K h8))))))))) : Ca (d + 1) m_Wr_init [.ref x0, .ref x1, .ref x2] h0 (QV K) := by
  show Wp _ _ 0 [some (.ref x0), some (.ref x1), some (.ref x2)] [] h0 _
  refine V.aload_n d_Wr_init_0 rfl ?_
  obtain ⟨g1, hq⟩ := hq
  refine V.callV d_Wr_init_1 (cI_call (t := []) (rs := []) rfl rfl (lk2 g1) ⟨leb rfl, leb rfl⟩) hq (fun h2 hq => ?_)
  refine V.aload_n d_Wr_init_4 rfl ?_
  refine V.aload_n d_Wr_init_5 rfl ?_
  obtain ⟨g4, hq⟩ := hq
  refine V.put2 d_Wr_init_6 rfl (Or.inr rfl) (List.mem_singleton.mpr g4) ?_
  replace hq := hq _ rfl
  refine V.aload_n d_Wr_init_9 rfl ?_
  refine V.aload_n d_Wr_init_10 rfl ?_
  refine V.put2 d_Wr_init_11 rfl (Or.inr rfl) (List.mem_singleton.mpr g4) ?_
  replace hq := hq _ rfl
  refine V.aload_n d_Wr_init_14 rfl ?_
  refine V.iconst (x := 0) d_Wr_init_15 (by decide) ?_
  refine V.put0 d_Wr_init_16 rfl (Or.inl rfl) (List.mem_singleton.mpr g4) ?_
  replace hq := hq _ rfl
  refine V.aload_n d_Wr_init_19 rfl ?_
  refine V.lconst (x := 0) d_Wr_init_20 (by decide) ?_
  refine V.put1 d_Wr_init_21 rfl (Or.inl rfl) (List.mem_singleton.mpr g4) ?_
  replace hq := hq _ rfl
  refine V.vret d_Wr_init_24 rfl ?_
  exact V.rV hq
theorem w_Wr_passNumber {d : Nat} {K : Int32 → Hp → Prop} {x0 : Nat} {x1 : Nat} {h0 : Hp} (hq :
  ((hS h0 x0).1 = 6 ∧ Ca d m_Wr_takeFor [.ref x0, .ref x1] h0 (QI (fun v2 h3 => Wp (d + 1) m_Wr_passNumber 8 [some (.ref x0), some (.ref x1), some (.int v2), some (.int (0 : Int32)), none] [] h3 (QI K))))) : Ca (d + 1) m_Wr_passNumber [.ref x0, .ref x1] h0 (QI K) := by
  show Wp _ _ 0 [some (.ref x0), some (.ref x1), none, none, none] [] h0 _
  refine V.aload_n d_Wr_passNumber_0 rfl ?_
  refine V.aload_n d_Wr_passNumber_1 rfl ?_
  obtain ⟨g1, hq⟩ := hq
  refine V.callI d_Wr_passNumber_2 (cV_call (t := [_]) (rs := []) rfl (Or.inl rfl) rfl (lk1 g1) ⟨leb rfl, leb rfl⟩) hq (fun v2 h3 hq => ?_)
  refine V.istore_n (l' := [_, _, _, _, _]) d_Wr_passNumber_5 rfl (ltb rfl) ?_
  refine V.iconst (x := 0) d_Wr_passNumber_6 (by decide) ?_
  refine V.istore_n (l' := [_, _, _, _, _]) d_Wr_passNumber_7 rfl (ltb rfl) ?_
  exact hq
theorem w_Wr_passNumber_8 {d : Nat} {K : Int32 → Hp → Prop} {x0 : Nat} {x1 : Nat} {x2 : Int32} {x3 : Int32} {y4 : Option Value} {h0 : Hp} (hq :
  ((hS h0 x1).1 = 2 ∧ (if x3 < (hI h0 x1 1) then (if x2 = 0 then (if (hI h0 x1 0) = (118 : Int32) then ((hS h0 x0).1 = 6 ∧ Ca d m_Ff_byteOf [.long (hL h0 x0 6), .int ((8 : Int32) * x3)] h0 (QI (fun v7 h8 => ((hS h8 x0).1 = 6 ∧ Ca d m_Wr_make [.ref x0, .int v7] h8 (QI (fun v11 h12 => (∀ v14 : Int32, v14 = (x3 + 1) → Wp (d + 1) m_Wr_passNumber 8 [some (.ref x0), some (.ref x1), some (.int v11), some (.int v14), some (.int x3)] [] h12 (QI K)))))))) else (∀ v15 : Int32, v15 = (((hI h0 x1 1) - (1 : Int32)) - x3) → ((hS h0 x0).1 = 6 ∧ Ca d m_Ff_byteOf [.long (hL h0 x0 6), .int ((8 : Int32) * v15)] h0 (QI (fun v17 h18 => ((hS h18 x0).1 = 6 ∧ Ca d m_Wr_make [.ref x0, .int v17] h18 (QI (fun v21 h22 => (∀ v24 : Int32, v24 = (x3 + 1) → Wp (d + 1) m_Wr_passNumber 8 [some (.ref x0), some (.ref x1), some (.int v21), some (.int v24), some (.int v15)] [] h22 (QI K)))))))))) else K x2 h0) else K x2 h0))) : Wp (d + 1) m_Wr_passNumber 8 [some (.ref x0), some (.ref x1), some (.int x2), some (.int x3), y4] [] h0 (QI K) := by
  refine V.iload_n d_Wr_passNumber_8 rfl ?_
  refine V.aload_n d_Wr_passNumber_9 rfl ?_
  obtain ⟨g5, hq⟩ := hq
  refine V.get0 d_Wr_passNumber_10 rfl (List.mem_singleton.mpr g5) ?_
  refine V.ic_ge (t := 66) d_Wr_passNumber_13 ⟨rfl, rfl⟩ (fun hc => ?_) (fun hc => ?_)
  · replace hq := ifp hc hq
    refine V.iload_n d_Wr_passNumber_16 rfl ?_
    refine V.if_ne (t := 66) d_Wr_passNumber_17 ⟨rfl, rfl⟩ (fun hc => ?_) (fun hc => ?_)
    · replace hq := ifp hc hq
      refine V.aload_n d_Wr_passNumber_20 rfl ?_
      refine V.get0 d_Wr_passNumber_21 rfl (List.mem_singleton.mpr g5) ?_
      refine V.bipush (x := 118) d_Wr_passNumber_24 (by decide) ?_
      refine V.ic_ne (t := 33) d_Wr_passNumber_26 ⟨rfl, rfl⟩ (fun hc => ?_) (fun hc => ?_)
      · replace hq := ifp hc hq
        refine V.iload_n d_Wr_passNumber_29 rfl ?_
        refine V.goto (t := 41) d_Wr_passNumber_30 ⟨rfl, rfl⟩ ?_
        refine V.istore (l' := [_, _, _, _, _]) d_Wr_passNumber_41 rfl (ltb rfl) ?_
        refine V.aload_n d_Wr_passNumber_43 rfl ?_
        refine V.aload_n d_Wr_passNumber_44 rfl ?_
        obtain ⟨g6, hq⟩ := hq
        refine V.get1 d_Wr_passNumber_45 rfl (List.mem_singleton.mpr g6) ?_
        refine V.bipush (x := 8) d_Wr_passNumber_48 (by decide) ?_
        refine V.iload d_Wr_passNumber_50 rfl ?_
        refine V.imul d_Wr_passNumber_52 ?_
        refine V.callI d_Wr_passNumber_53 (cS_call (as := [_, _]) (rs := [_]) rfl rfl ⟨leb rfl, leb rfl⟩) hq (fun v7 h8 hq => ?_)
        obtain ⟨g10, hq⟩ := hq
        refine V.callI d_Wr_passNumber_56 (cV_call (t := [_]) (rs := []) rfl (Or.inl rfl) rfl (lk1 g10) ⟨leb rfl, leb rfl⟩) hq (fun v11 h12 hq => ?_)
        refine V.istore_n (l' := [_, _, _, _, _]) d_Wr_passNumber_59 rfl (ltb rfl) ?_
        replace hq := hq _ rfl
        refine V.iinc (l' := [_, _, _, _, _]) d_Wr_passNumber_60 rfl (show _ + _ = _ + (1 : Int32) from rfl) rfl ?_
        refine V.goto (t := 8) d_Wr_passNumber_63 ⟨rfl, rfl⟩ ?_
        exact hq
      · replace hq := ifn hc hq
        refine V.aload_n d_Wr_passNumber_33 rfl ?_
        refine V.get0 d_Wr_passNumber_34 rfl (List.mem_singleton.mpr g5) ?_
        refine V.iconst (x := 1) d_Wr_passNumber_37 (by decide) ?_
        refine V.isub d_Wr_passNumber_38 ?_
        refine V.iload_n d_Wr_passNumber_39 rfl ?_
        refine V.isub d_Wr_passNumber_40 ?_
        replace hq := hq _ rfl
        refine V.istore (l' := [_, _, _, _, _]) d_Wr_passNumber_41 rfl (ltb rfl) ?_
        refine V.aload_n d_Wr_passNumber_43 rfl ?_
        refine V.aload_n d_Wr_passNumber_44 rfl ?_
        obtain ⟨g16, hq⟩ := hq
        refine V.get1 d_Wr_passNumber_45 rfl (List.mem_singleton.mpr g16) ?_
        refine V.bipush (x := 8) d_Wr_passNumber_48 (by decide) ?_
        refine V.iload d_Wr_passNumber_50 rfl ?_
        refine V.imul d_Wr_passNumber_52 ?_
        refine V.callI d_Wr_passNumber_53 (cS_call (as := [_, _]) (rs := [_]) rfl rfl ⟨leb rfl, leb rfl⟩) hq (fun v17 h18 hq => ?_)
        obtain ⟨g20, hq⟩ := hq
        refine V.callI d_Wr_passNumber_56 (cV_call (t := [_]) (rs := []) rfl (Or.inl rfl) rfl (lk1 g20) ⟨leb rfl, leb rfl⟩) hq (fun v21 h22 hq => ?_)
        refine V.istore_n (l' := [_, _, _, _, _]) d_Wr_passNumber_59 rfl (ltb rfl) ?_
        replace hq := hq _ rfl
        refine V.iinc (l' := [_, _, _, _, _]) d_Wr_passNumber_60 rfl (show _ + _ = _ + (1 : Int32) from rfl) rfl ?_
        refine V.goto (t := 8) d_Wr_passNumber_63 ⟨rfl, rfl⟩ ?_
        exact hq
    · replace hq := ifn hc hq
      refine V.iload_n d_Wr_passNumber_66 rfl ?_
      refine V.iret d_Wr_passNumber_67 rfl ?_
      exact V.rI hq
  · replace hq := ifn hc hq
    refine V.iload_n d_Wr_passNumber_66 rfl ?_
    refine V.iret d_Wr_passNumber_67 rfl ?_
    exact V.rI hq
theorem w_Wr_passBits {d : Nat} {K : Int32 → Hp → Prop} {x0 : Nat} {x1 : Nat} {h0 : Hp} (hq :
  ((hS h0 x0).1 = 6 ∧ Ca d m_Wr_takeFor [.ref x0, .ref x1] h0 (QI (fun v2 h3 => ((hS h3 x1).1 = 2 ∧ (∀ v6 : Int32, v6 = ((hI h3 x1 1) - (1 : Int32)) → Wp (d + 1) m_Wr_passBits 13 [some (.ref x0), some (.ref x1), some (.int v2), some (.int v6)] [] h3 (QI K))))))) : Ca (d + 1) m_Wr_passBits [.ref x0, .ref x1] h0 (QI K) := by
  show Wp _ _ 0 [some (.ref x0), some (.ref x1), none, none] [] h0 _
  refine V.aload_n d_Wr_passBits_0 rfl ?_
  refine V.aload_n d_Wr_passBits_1 rfl ?_
  obtain ⟨g1, hq⟩ := hq
  refine V.callI d_Wr_passBits_2 (cV_call (t := [_]) (rs := []) rfl (Or.inl rfl) rfl (lk1 g1) ⟨leb rfl, leb rfl⟩) hq (fun v2 h3 hq => ?_)
  refine V.istore_n (l' := [_, _, _, _]) d_Wr_passBits_5 rfl (ltb rfl) ?_
  refine V.aload_n d_Wr_passBits_6 rfl ?_
  obtain ⟨g5, hq⟩ := hq
  refine V.get0 d_Wr_passBits_7 rfl (List.mem_singleton.mpr g5) ?_
  refine V.iconst (x := 1) d_Wr_passBits_10 (by decide) ?_
  refine V.isub d_Wr_passBits_11 ?_
  replace hq := hq _ rfl
  refine V.istore_n (l' := [_, _, _, _]) d_Wr_passBits_12 rfl (ltb rfl) ?_
  exact hq
theorem w_Wr_passBits_13 {d : Nat} {K : Int32 → Hp → Prop} {x0 : Nat} {y1 : Option Value} {x2 : Int32} {x3 : Int32} {h0 : Hp} (hq :
  (if x3 < 0 then K x2 h0 else (if x2 = 0 then ((hS h0 x0).1 = 6 ∧ Ca d m_Wr_makeBit [.ref x0, .int ((((hL h0 x0 6) >>> (x3.toInt64 &&& 63)).toInt32) &&& (1 : Int32))] h0 (QI (fun v8 h9 => (∀ v11 : Int32, v11 = (x3 + (-1)) → Wp (d + 1) m_Wr_passBits 13 [some (.ref x0), (yk y1), some (.int v8), some (.int v11)] [] h9 (QI K))))) else K x2 h0))) : Wp (d + 1) m_Wr_passBits 13 [some (.ref x0), y1, some (.int x2), some (.int x3)] [] h0 (QI K) := by
  refine V.iload_n d_Wr_passBits_13 rfl ?_
  refine V.if_lt (t := 41) d_Wr_passBits_14 ⟨rfl, rfl⟩ (fun hc => ?_) (fun hc => ?_)
  · replace hq := ifp hc hq
    refine V.iload_n d_Wr_passBits_41 rfl ?_
    refine V.iret d_Wr_passBits_42 rfl ?_
    exact V.rI hq
  · replace hq := ifn hc hq
    refine V.iload_n d_Wr_passBits_17 rfl ?_
    refine V.if_ne (t := 41) d_Wr_passBits_18 ⟨rfl, rfl⟩ (fun hc => ?_) (fun hc => ?_)
    · replace hq := ifp hc hq
      refine V.aload_n d_Wr_passBits_21 rfl ?_
      refine V.aload_n d_Wr_passBits_22 rfl ?_
      obtain ⟨g7, hq⟩ := hq
      refine V.get1 d_Wr_passBits_23 rfl (List.mem_singleton.mpr g7) ?_
      refine V.iload_n d_Wr_passBits_26 rfl ?_
      refine V.lshr d_Wr_passBits_27 ?_
      refine V.l2i d_Wr_passBits_28 ?_
      refine V.iconst (x := 1) d_Wr_passBits_29 (by decide) ?_
      refine V.iand d_Wr_passBits_30 ?_
      refine V.callI d_Wr_passBits_31 (cV_call (t := [_]) (rs := []) rfl (Or.inl rfl) rfl (lk1 g7) ⟨leb rfl, leb rfl⟩) hq (fun v8 h9 hq => ?_)
      refine V.istore_n (l' := [_, _, _, _]) d_Wr_passBits_34 ((st1_alt (ltb rfl)).trans rfl) (ltb rfl) ?_
      replace hq := hq _ rfl
      refine V.iinc (l' := [_, _, _, _]) d_Wr_passBits_35 rfl (show _ + _ = _ + (-1 : Int32) from rfl) rfl ?_
      refine V.goto (t := 13) d_Wr_passBits_38 ⟨rfl, rfl⟩ ?_
      exact hq
    · replace hq := ifn hc hq
      refine V.iload_n d_Wr_passBits_41 rfl ?_
      refine V.iret d_Wr_passBits_42 rfl ?_
      exact V.rI hq
theorem w_Wr_passWords {d : Nat} {K : Int32 → Hp → Prop} {x0 : Nat} {h0 : Hp} (hq :
  ((hS h0 x0).1 = 6 ∧ Ca d m_Wr_take [.ref x0, .long (0 : Int64), .long (20 : Int64)] h0 (QI (fun v2 h3 => (if v2 = 0 then ((hS h3 x0).1 = 6 ∧ Ca d m_Wr_makeBytes [.ref x0, .int ((hL h3 x0 6).toInt32), .int (1 : Int32)] h3 (QI (fun v6 h7 => (if v6 = 0 then ((hS h7 x0).1 = 6 ∧ Ca d m_Wr_make [.ref x0, .int (0 : Int32)] h7 (QI (fun v10 h11 => K v10 h11))) else K v6 h7)))) else (if v2 = 0 then ((hS h3 x0).1 = 6 ∧ Ca d m_Wr_make [.ref x0, .int (0 : Int32)] h3 (QI (fun v14 h15 => K v14 h15))) else K v2 h3)))))) : Ca (d + 1) m_Wr_passWords [.ref x0] h0 (QI K) := by
  show Wp _ _ 0 [some (.ref x0), none] [] h0 _
  refine V.aload_n d_Wr_passWords_0 rfl ?_
  refine V.lconst (x := 0) d_Wr_passWords_1 (by decide) ?_
  refine V.ldc2_w d_Wr_passWords_2 rfl ?_
  obtain ⟨g1, hq⟩ := hq
  refine V.callI d_Wr_passWords_5 (cV_call (t := [_, _]) (rs := []) rfl (Or.inl rfl) rfl (lk1 g1) ⟨leb rfl, leb rfl⟩) hq (fun v2 h3 hq => ?_)
  refine V.istore_n (l' := [_, _]) d_Wr_passWords_8 rfl (ltb rfl) ?_
  refine V.iload_n d_Wr_passWords_9 rfl ?_
  refine V.if_ne (t := 24) d_Wr_passWords_10 ⟨rfl, rfl⟩ (fun hc => ?_) (fun hc => ?_)
  · replace hq := ifp hc hq
    refine V.aload_n d_Wr_passWords_13 rfl ?_
    refine V.aload_n d_Wr_passWords_14 rfl ?_
    obtain ⟨g5, hq⟩ := hq
    refine V.get1 d_Wr_passWords_15 rfl (List.mem_singleton.mpr g5) ?_
    refine V.l2i d_Wr_passWords_18 ?_
    refine V.iconst (x := 1) d_Wr_passWords_19 (by decide) ?_
    refine V.callI d_Wr_passWords_20 (cV_call (t := [_, _]) (rs := []) rfl (Or.inl rfl) rfl (lk1 g5) ⟨leb rfl, leb rfl⟩) hq (fun v6 h7 hq => ?_)
    refine V.istore_n (l' := [_, _]) d_Wr_passWords_23 rfl (ltb rfl) ?_
    refine V.iload_n d_Wr_passWords_24 rfl ?_
    refine V.if_ne (t := 36) d_Wr_passWords_25 ⟨rfl, rfl⟩ (fun hc => ?_) (fun hc => ?_)
    · replace hq := ifp hc hq
      refine V.aload_n d_Wr_passWords_28 rfl ?_
      refine V.iconst (x := 0) d_Wr_passWords_29 (by decide) ?_
      obtain ⟨g9, hq⟩ := hq
      refine V.callI d_Wr_passWords_30 (cV_call (t := [_]) (rs := []) rfl (Or.inl rfl) rfl (lk1 g9) ⟨leb rfl, leb rfl⟩) hq (fun v10 h11 hq => ?_)
      refine V.goto (t := 37) d_Wr_passWords_33 ⟨rfl, rfl⟩ ?_
      refine V.iret d_Wr_passWords_37 rfl ?_
      exact V.rI hq
    · replace hq := ifn hc hq
      refine V.iload_n d_Wr_passWords_36 rfl ?_
      refine V.iret d_Wr_passWords_37 rfl ?_
      exact V.rI hq
  · replace hq := ifn hc hq
    refine V.iload_n d_Wr_passWords_24 rfl ?_
    refine V.if_ne (t := 36) d_Wr_passWords_25 ⟨rfl, rfl⟩ (fun hc => ?_) (fun hc => ?_)
    · replace hq := ifp hc hq
      refine V.aload_n d_Wr_passWords_28 rfl ?_
      refine V.iconst (x := 0) d_Wr_passWords_29 (by decide) ?_
      obtain ⟨g13, hq⟩ := hq
      refine V.callI d_Wr_passWords_30 (cV_call (t := [_]) (rs := []) rfl (Or.inl rfl) rfl (lk1 g13) ⟨leb rfl, leb rfl⟩) hq (fun v14 h15 hq => ?_)
      refine V.goto (t := 37) d_Wr_passWords_33 ⟨rfl, rfl⟩ ?_
      refine V.iret d_Wr_passWords_37 rfl ?_
      exact V.rI hq
    · replace hq := ifn hc hq
      refine V.iload_n d_Wr_passWords_36 rfl ?_
      refine V.iret d_Wr_passWords_37 rfl ?_
      exact V.rI hq
theorem w_Wr_passRest {d : Nat} {K : Int32 → Hp → Prop} {x0 : Nat} {h0 : Hp} (hq :
  ((hS h0 x0).1 = 6 ∧ Ca d m_Wr_take [.ref x0, .long (0 : Int64), .long (120 : Int64)] h0 (QI (fun v2 h3 => (if v2 = 0 then ((hS h3 x0).1 = 6 ∧ Ca d m_Wr_makeBytes [.ref x0, .int ((hL h3 x0 6).toInt32), .int (0 : Int32)] h3 (QI (fun v6 h7 => K v6 h7))) else K v2 h3))))) : Ca (d + 1) m_Wr_passRest [.ref x0] h0 (QI K) := by
  show Wp _ _ 0 [some (.ref x0), none] [] h0 _
  refine V.aload_n d_Wr_passRest_0 rfl ?_
  refine V.lconst (x := 0) d_Wr_passRest_1 (by decide) ?_
  refine V.ldc2_w d_Wr_passRest_2 rfl ?_
  obtain ⟨g1, hq⟩ := hq
  refine V.callI d_Wr_passRest_5 (cV_call (t := [_, _]) (rs := []) rfl (Or.inl rfl) rfl (lk1 g1) ⟨leb rfl, leb rfl⟩) hq (fun v2 h3 hq => ?_)
  refine V.istore_n (l' := [_, _]) d_Wr_passRest_8 rfl (ltb rfl) ?_
  refine V.iload_n d_Wr_passRest_9 rfl ?_
  refine V.if_ne (t := 26) d_Wr_passRest_10 ⟨rfl, rfl⟩ (fun hc => ?_) (fun hc => ?_)
  · replace hq := ifp hc hq
    refine V.aload_n d_Wr_passRest_13 rfl ?_
    refine V.aload_n d_Wr_passRest_14 rfl ?_
    obtain ⟨g5, hq⟩ := hq
    refine V.get1 d_Wr_passRest_15 rfl (List.mem_singleton.mpr g5) ?_
    refine V.l2i d_Wr_passRest_18 ?_
    refine V.iconst (x := 0) d_Wr_passRest_19 (by decide) ?_
    refine V.callI d_Wr_passRest_20 (cV_call (t := [_, _]) (rs := []) rfl (Or.inl rfl) rfl (lk1 g5) ⟨leb rfl, leb rfl⟩) hq (fun v6 h7 hq => ?_)
    refine V.goto (t := 27) d_Wr_passRest_23 ⟨rfl, rfl⟩ ?_
    refine V.iret d_Wr_passRest_27 rfl ?_
    exact V.rI hq
  · replace hq := ifn hc hq
    refine V.iload_n d_Wr_passRest_26 rfl ?_
    refine V.iret d_Wr_passRest_27 rfl ?_
    exact V.rI hq
theorem w_Wr_passSpare {d : Nat} {K : Int32 → Hp → Prop} {x0 : Nat} {h0 : Hp} (hq :
  ((hS h0 x0).1 = 6 ∧ Ca d m_Co_bytesPassed [.ref x0] h0 (QI (fun v2 h3 => ((hS h3 x0).1 = 6 ∧ (∀ h6 : Hp, h6 = sI h3 x0 0 ((8 : Int32) * v2) → K (0 : Int32) h6)))))) : Ca (d + 1) m_Wr_passSpare [.ref x0] h0 (QI K) := by
  show Wp _ _ 0 [some (.ref x0)] [] h0 _
  refine V.aload_n d_Wr_passSpare_0 rfl ?_
  refine V.bipush (x := 8) d_Wr_passSpare_1 (by decide) ?_
  refine V.aload_n d_Wr_passSpare_3 rfl ?_
  obtain ⟨g1, hq⟩ := hq
  refine V.callI d_Wr_passSpare_4 (cV_call (t := []) (rs := [_, _]) rfl (Or.inr rfl) rfl (lk1 g1) ⟨leb rfl, leb rfl⟩) hq (fun v2 h3 hq => ?_)
  refine V.imul d_Wr_passSpare_7 ?_
  obtain ⟨g5, hq⟩ := hq
  refine V.put0 d_Wr_passSpare_8 rfl (Or.inl rfl) (List.mem_singleton.mpr g5) ?_
  replace hq := hq _ rfl
  refine V.iconst (x := 0) d_Wr_passSpare_11 (by decide) ?_
  refine V.iret d_Wr_passSpare_12 rfl ?_
  exact V.rI hq
theorem w_Wr_takeFor {d : Nat} {K : Int32 → Hp → Prop} {x0 : Nat} {x1 : Nat} {h0 : Hp} (hq :
  ((hS h0 x1).1 = 2 ∧ ((hS h0 x0).1 = 6 ∧ Ca d m_Wr_take [.ref x0, .long (hL h0 x1 11), .long (hL h0 x1 12)] h0 (QI (fun v3 h4 => (if v3 = 0 then ((hS h4 x0).1 = 6 ∧ ((hS h4 x1).1 = 2 ∧ (∀ h8 : Hp, h8 = sL h4 x1 15 (hL h4 x0 6) → K v3 h8))) else K v3 h4)))))) : Ca (d + 1) m_Wr_takeFor [.ref x0, .ref x1] h0 (QI K) := by
  show Wp _ _ 0 [some (.ref x0), some (.ref x1), none] [] h0 _
  refine V.aload_n d_Wr_takeFor_0 rfl ?_
  refine V.aload_n d_Wr_takeFor_1 rfl ?_
  obtain ⟨g1, hq⟩ := hq
  refine V.get1 d_Wr_takeFor_2 rfl (List.mem_singleton.mpr g1) ?_
  refine V.aload_n d_Wr_takeFor_5 rfl ?_
  refine V.get1 d_Wr_takeFor_6 rfl (List.mem_singleton.mpr g1) ?_
  obtain ⟨g2, hq⟩ := hq
  refine V.callI d_Wr_takeFor_9 (cV_call (t := [_, _]) (rs := []) rfl (Or.inl rfl) rfl (lk1 g2) ⟨leb rfl, leb rfl⟩) hq (fun v3 h4 hq => ?_)
  refine V.istore_n (l' := [_, _, _]) d_Wr_takeFor_12 rfl (ltb rfl) ?_
  refine V.iload_n d_Wr_takeFor_13 rfl ?_
  refine V.if_ne (t := 25) d_Wr_takeFor_14 ⟨rfl, rfl⟩ (fun hc => ?_) (fun hc => ?_)
  · replace hq := ifp hc hq
    refine V.aload_n d_Wr_takeFor_17 rfl ?_
    refine V.aload_n d_Wr_takeFor_18 rfl ?_
    obtain ⟨g6, hq⟩ := hq
    refine V.get1 d_Wr_takeFor_19 rfl (List.mem_singleton.mpr g6) ?_
    obtain ⟨g7, hq⟩ := hq
    refine V.put1 d_Wr_takeFor_22 rfl (Or.inl rfl) (List.mem_singleton.mpr g7) ?_
    replace hq := hq _ rfl
    refine V.iload_n d_Wr_takeFor_25 rfl ?_
    refine V.iret d_Wr_takeFor_26 rfl ?_
    exact V.rI hq
  · replace hq := ifn hc hq
    refine V.iload_n d_Wr_takeFor_25 rfl ?_
    refine V.iret d_Wr_takeFor_26 rfl ?_
    exact V.rI hq
theorem w_Wr_take {d : Nat} {K : Int32 → Hp → Prop} {x0 : Nat} {x1 : Int64} {x3 : Int64} {h0 : Hp} (hq :
  ((hS h0 x0).1 = 6 ∧ ((hS h0 (hR h0 x0 3)).1 = 1 ∧ (if (hI h0 x0 5) < (hI h0 (hR h0 x0 3) 1) then Ca d m_Lo_at [.ref (hR h0 x0 3), .int (hI h0 x0 5)] h0 (QL (fun v3 h4 => ((hS h4 x0).1 = 6 ∧ (∀ h7 : Hp, h7 = sL h4 x0 6 v3 → (∀ h8 : Hp, h8 = sI h7 x0 5 ((hI h7 x0 5) + (1 : Int32)) → (if (hL h8 x0 6) < x1 then K (2 : Int32) h8 else (if x3 < (hL h8 x0 6) then K (2 : Int32) h8 else K (0 : Int32) h8))))))) else K (1 : Int32) h0)))) : Ca (d + 1) m_Wr_take [.ref x0, .long x1, .long x3] h0 (QI K) := by
  show Wp _ _ 0 [some (.ref x0), some (.long x1), none, some (.long x3), none] [] h0 _
  refine V.aload_n d_Wr_take_0 rfl ?_
  obtain ⟨g1, hq⟩ := hq
  refine V.get0 d_Wr_take_1 rfl (List.mem_singleton.mpr g1) ?_
  refine V.aload_n d_Wr_take_4 rfl ?_
  refine V.get2 d_Wr_take_5 rfl (List.mem_singleton.mpr g1) ?_
  obtain ⟨g2, hq⟩ := hq
  refine V.get0 d_Wr_take_8 rfl (List.mem_singleton.mpr g2) ?_
  refine V.ic_lt (t := 16) d_Wr_take_11 ⟨rfl, rfl⟩ (fun hc => ?_) (fun hc => ?_)
  · replace hq := ifp hc hq
    refine V.aload_n d_Wr_take_16 rfl ?_
    refine V.aload_n d_Wr_take_17 rfl ?_
    refine V.get2 d_Wr_take_18 rfl (List.mem_singleton.mpr g1) ?_
    refine V.aload_n d_Wr_take_21 rfl ?_
    refine V.get0 d_Wr_take_22 rfl (List.mem_singleton.mpr g1) ?_
    refine V.callL d_Wr_take_25 (cV_call (t := [_]) (rs := [_]) rfl (Or.inl rfl) rfl (lk1 g2) ⟨leb rfl, leb rfl⟩) hq (fun v3 h4 hq => ?_)
    obtain ⟨g6, hq⟩ := hq
    refine V.put1 d_Wr_take_28 rfl (Or.inl rfl) (List.mem_singleton.mpr g6) ?_
    replace hq := hq _ rfl
    refine V.aload_n d_Wr_take_31 rfl ?_
    refine V.dupR d_Wr_take_32 ?_
    refine V.get0 d_Wr_take_33 rfl (List.mem_singleton.mpr g6) ?_
    refine V.iconst (x := 1) d_Wr_take_36 (by decide) ?_
    refine V.iadd d_Wr_take_37 ?_
    refine V.put0 d_Wr_take_38 rfl (Or.inl rfl) (List.mem_singleton.mpr g6) ?_
    replace hq := hq _ rfl
    refine V.aload_n d_Wr_take_41 rfl ?_
    refine V.get1 d_Wr_take_42 rfl (List.mem_singleton.mpr g6) ?_
    refine V.lload_n d_Wr_take_45 rfl ?_
    refine V.lc_lt d_Wr_take_46 d_Wr_take_47 ⟨rfl, rfl⟩ (fun hc => ?_) (fun hc => ?_)
    · replace hq := ifp hc hq
      refine V.iconst (x := 2) d_Wr_take_63 (by decide) ?_
      refine V.iret d_Wr_take_64 rfl ?_
      exact V.rI hq
    · replace hq := ifn hc hq
      refine V.aload_n d_Wr_take_50 rfl ?_
      refine V.get1 d_Wr_take_51 rfl (List.mem_singleton.mpr g6) ?_
      refine V.lload_n d_Wr_take_54 rfl ?_
      refine V.lc_gt d_Wr_take_55 d_Wr_take_56 ⟨rfl, rfl⟩ (fun hc => ?_) (fun hc => ?_)
      · replace hq := ifp hc hq
        refine V.iconst (x := 2) d_Wr_take_63 (by decide) ?_
        refine V.iret d_Wr_take_64 rfl ?_
        exact V.rI hq
      · replace hq := ifn hc hq
        refine V.iconst (x := 0) d_Wr_take_59 (by decide) ?_
        refine V.goto (t := 64) d_Wr_take_60 ⟨rfl, rfl⟩ ?_
        refine V.iret d_Wr_take_64 rfl ?_
        exact V.rI hq
  · replace hq := ifn hc hq
    refine V.iconst (x := 1) d_Wr_take_14 (by decide) ?_
    refine V.iret d_Wr_take_15 rfl ?_
    exact V.rI hq
theorem w_Wr_makeBytes {d : Nat} {K : Int32 → Hp → Prop} {x0 : Nat} {x1 : Int32} {x2 : Int32} {h0 : Hp} (hq :
  Wp (d + 1) m_Wr_makeBytes 5 [some (.ref x0), some (.int x1), some (.int x2), some (.int (0 : Int32)), some (.int (0 : Int32))] [] h0 (QI K)) : Ca (d + 1) m_Wr_makeBytes [.ref x0, .int x1, .int x2] h0 (QI K) := by
  show Wp _ _ 0 [some (.ref x0), some (.int x1), some (.int x2), none, none] [] h0 _
  refine V.iconst (x := 0) d_Wr_makeBytes_0 (by decide) ?_
  refine V.istore_n (l' := [_, _, _, _, _]) d_Wr_makeBytes_1 rfl (ltb rfl) ?_
  refine V.iconst (x := 0) d_Wr_makeBytes_2 (by decide) ?_
  refine V.istore (l' := [_, _, _, _, _]) d_Wr_makeBytes_3 rfl (ltb rfl) ?_
  exact hq
theorem w_Wr_makeBytes_5 {d : Nat} {K : Int32 → Hp → Prop} {x0 : Nat} {x1 : Int32} {x2 : Int32} {x3 : Int32} {x4 : Int32} {h0 : Hp} (hq :
  (if x4 < x1 then (if x3 = 0 then ((hS h0 x0).1 = 6 ∧ Ca d m_Wr_take [.ref x0, .long (x2.toInt64), .long (255 : Int64)] h0 (QI (fun v2 h3 => (if v2 = 0 then ((hS h3 x0).1 = 6 ∧ Ca d m_Wr_make [.ref x0, .int ((hL h3 x0 6).toInt32)] h3 (QI (fun v6 h7 => (∀ v9 : Int32, v9 = (x4 + 1) → Wp (d + 1) m_Wr_makeBytes 5 [some (.ref x0), some (.int x1), some (.int x2), some (.int v6), some (.int v9)] [] h7 (QI K))))) else (∀ v10 : Int32, v10 = (x4 + 1) → Wp (d + 1) m_Wr_makeBytes 5 [some (.ref x0), some (.int x1), some (.int x2), some (.int v2), some (.int v10)] [] h3 (QI K)))))) else K x3 h0) else K x3 h0)) : Wp (d + 1) m_Wr_makeBytes 5 [some (.ref x0), some (.int x1), some (.int x2), some (.int x3), some (.int x4)] [] h0 (QI K) := by
  refine V.iload d_Wr_makeBytes_5 rfl ?_
  refine V.iload_n d_Wr_makeBytes_7 rfl ?_
  refine V.ic_ge (t := 45) d_Wr_makeBytes_8 ⟨rfl, rfl⟩ (fun hc => ?_) (fun hc => ?_)
  · replace hq := ifp hc hq
    refine V.iload_n d_Wr_makeBytes_11 rfl ?_
    refine V.if_ne (t := 45) d_Wr_makeBytes_12 ⟨rfl, rfl⟩ (fun hc => ?_) (fun hc => ?_)
    · replace hq := ifp hc hq
      refine V.aload_n d_Wr_makeBytes_15 rfl ?_
      refine V.iload_n d_Wr_makeBytes_16 rfl ?_
      refine V.i2l d_Wr_makeBytes_17 ?_
      refine V.ldc2_w d_Wr_makeBytes_18 rfl ?_
      obtain ⟨g1, hq⟩ := hq
      refine V.callI d_Wr_makeBytes_21 (cV_call (t := [_, _]) (rs := []) rfl (Or.inl rfl) rfl (lk1 g1) ⟨leb rfl, leb rfl⟩) hq (fun v2 h3 hq => ?_)
      refine V.istore_n (l' := [_, _, _, _, _]) d_Wr_makeBytes_24 rfl (ltb rfl) ?_
      refine V.iload_n d_Wr_makeBytes_25 rfl ?_
      refine V.if_ne (t := 39) d_Wr_makeBytes_26 ⟨rfl, rfl⟩ (fun hc => ?_) (fun hc => ?_)
      · replace hq := ifp hc hq
        refine V.aload_n d_Wr_makeBytes_29 rfl ?_
        refine V.aload_n d_Wr_makeBytes_30 rfl ?_
        obtain ⟨g5, hq⟩ := hq
        refine V.get1 d_Wr_makeBytes_31 rfl (List.mem_singleton.mpr g5) ?_
        refine V.l2i d_Wr_makeBytes_34 ?_
        refine V.callI d_Wr_makeBytes_35 (cV_call (t := [_]) (rs := []) rfl (Or.inl rfl) rfl (lk1 g5) ⟨leb rfl, leb rfl⟩) hq (fun v6 h7 hq => ?_)
        refine V.istore_n (l' := [_, _, _, _, _]) d_Wr_makeBytes_38 rfl (ltb rfl) ?_
        replace hq := hq _ rfl
        refine V.iinc (l' := [_, _, _, _, _]) d_Wr_makeBytes_39 rfl (show _ + _ = _ + (1 : Int32) from rfl) rfl ?_
        refine V.goto (t := 5) d_Wr_makeBytes_42 ⟨rfl, rfl⟩ ?_
        exact hq
      · replace hq := ifn hc hq
        replace hq := hq _ rfl
        refine V.iinc (l' := [_, _, _, _, _]) d_Wr_makeBytes_39 rfl (show _ + _ = _ + (1 : Int32) from rfl) rfl ?_
        refine V.goto (t := 5) d_Wr_makeBytes_42 ⟨rfl, rfl⟩ ?_
        exact hq
    · replace hq := ifn hc hq
      refine V.iload_n d_Wr_makeBytes_45 rfl ?_
      refine V.iret d_Wr_makeBytes_46 rfl ?_
      exact V.rI hq
  · replace hq := ifn hc hq
    refine V.iload_n d_Wr_makeBytes_45 rfl ?_
    refine V.iret d_Wr_makeBytes_46 rfl ?_
    exact V.rI hq
theorem w_Wr_make {d : Nat} {K : Int32 → Hp → Prop} {x0 : Nat} {x1 : Int32} {h0 : Hp} (hq :
  ((hS h0 x0).1 = 6 ∧ (∀ h2 : Hp, h2 = sI h0 x0 0 ((hI h0 x0 0) + (8 : Int32)) → ((hS h0 (hR h2 x0 4)).1 = 0 ∧ Ca d m_By_append [.ref (hR h2 x0 4), .int x1] h2 (QI (fun v4 h5 => (if v4 = 0 then K (2 : Int32) h5 else K (0 : Int32) h5))))))) : Ca (d + 1) m_Wr_make [.ref x0, .int x1] h0 (QI K) := by
  show Wp _ _ 0 [some (.ref x0), some (.int x1)] [] h0 _
  refine V.aload_n d_Wr_make_0 rfl ?_
  refine V.dupR d_Wr_make_1 ?_
  obtain ⟨g1, hq⟩ := hq
  refine V.get0 d_Wr_make_2 rfl (List.mem_singleton.mpr g1) ?_
  refine V.bipush (x := 8) d_Wr_make_5 (by decide) ?_
  refine V.iadd d_Wr_make_7 ?_
  refine V.put0 d_Wr_make_8 rfl (Or.inl rfl) (List.mem_singleton.mpr g1) ?_
  replace hq := hq _ rfl
  refine V.aload_n d_Wr_make_11 rfl ?_
  refine V.get2 d_Wr_make_12 rfl (List.mem_singleton.mpr g1) ?_
  refine V.iload_n d_Wr_make_15 rfl ?_
  obtain ⟨g3, hq⟩ := hq
  refine V.callI d_Wr_make_16 (cV_call (t := [_]) (rs := []) rfl (Or.inl rfl) rfl (lk1 g3) ⟨leb rfl, leb rfl⟩) hq (fun v4 h5 hq => ?_)
  refine V.if_eq (t := 26) d_Wr_make_19 ⟨rfl, rfl⟩ (fun hc => ?_) (fun hc => ?_)
  · replace hq := ifp hc hq
    refine V.iconst (x := 2) d_Wr_make_26 (by decide) ?_
    refine V.iret d_Wr_make_27 rfl ?_
    exact V.rI hq
  · replace hq := ifn hc hq
    refine V.iconst (x := 0) d_Wr_make_22 (by decide) ?_
    refine V.goto (t := 27) d_Wr_make_23 ⟨rfl, rfl⟩ ?_
    refine V.iret d_Wr_make_27 rfl ?_
    exact V.rI hq
theorem w_Wr_makeBit {d : Nat} {K : Int32 → Hp → Prop} {x0 : Nat} {x1 : Int32} {h0 : Hp} (hq :
  ((hS h0 x0).1 = 6 ∧ (if ((hI h0 x0 0) - (hI h0 x0 0) / (8 : Int32) * (8 : Int32)) = 0 then ((hS h0 (hR h0 x0 4)).1 = 0 ∧ Ca d m_By_append [.ref (hR h0 x0 4), .int (0 : Int32)] h0 (QI (fun v3 h4 => (if v3 = 0 then K (2 : Int32) h4 else Wp (d + 1) m_Wr_makeBit 23 [some (.ref x0), some (.int x1)] [] h4 (QI K))))) else Wp (d + 1) m_Wr_makeBit 23 [some (.ref x0), some (.int x1)] [] h0 (QI K)))) : Ca (d + 1) m_Wr_makeBit [.ref x0, .int x1] h0 (QI K) := by
  show Wp _ _ 0 [some (.ref x0), some (.int x1)] [] h0 _
  refine V.aload_n d_Wr_makeBit_0 rfl ?_
  obtain ⟨g1, hq⟩ := hq
  refine V.get0 d_Wr_makeBit_1 rfl (List.mem_singleton.mpr g1) ?_
  refine V.bipush (x := 8) d_Wr_makeBit_4 (by decide) ?_
  refine V.irem d_Wr_makeBit_6 (by decide) ?_
  refine V.if_ne (t := 23) d_Wr_makeBit_7 ⟨rfl, rfl⟩ (fun hc => ?_) (fun hc => ?_)
  · replace hq := ifp hc hq
    refine V.aload_n d_Wr_makeBit_10 rfl ?_
    refine V.get2 d_Wr_makeBit_11 rfl (List.mem_singleton.mpr g1) ?_
    refine V.iconst (x := 0) d_Wr_makeBit_14 (by decide) ?_
    obtain ⟨g2, hq⟩ := hq
    refine V.callI d_Wr_makeBit_15 (cV_call (t := [_]) (rs := []) rfl (Or.inl rfl) rfl (lk1 g2) ⟨leb rfl, leb rfl⟩) hq (fun v3 h4 hq => ?_)
    refine V.if_ne (t := 23) d_Wr_makeBit_18 ⟨rfl, rfl⟩ (fun hc => ?_) (fun hc => ?_)
    · replace hq := ifp hc hq
      refine V.iconst (x := 2) d_Wr_makeBit_21 (by decide) ?_
      refine V.iret d_Wr_makeBit_22 rfl ?_
      exact V.rI hq
    · replace hq := ifn hc hq
      exact hq
  · replace hq := ifn hc hq
    exact hq
theorem w_Wr_makeBit_23 {d : Nat} {K : Int32 → Hp → Prop} {x0 : Nat} {x1 : Int32} {h0 : Hp} (hq :
  ((hS h0 x0).1 = 6 ∧ ((hS h0 (hR h0 x0 4)).1 = 0 ∧ Ca d m_By_markInLast [.ref (hR h0 x0 4), .int (x1 <<< (((7 : Int32) - ((hI h0 x0 0) - (hI h0 x0 0) / (8 : Int32) * (8 : Int32))) &&& 31))] h0 (QV (fun h8 => ((hS h8 x0).1 = 6 ∧ (∀ h11 : Hp, h11 = sI h8 x0 0 ((hI h8 x0 0) + (1 : Int32)) → K (0 : Int32) h11))))))) : Wp (d + 1) m_Wr_makeBit 23 [some (.ref x0), some (.int x1)] [] h0 (QI K) := by
  refine V.aload_n d_Wr_makeBit_23 rfl ?_
  obtain ⟨g6, hq⟩ := hq
  refine V.get2 d_Wr_makeBit_24 rfl (List.mem_singleton.mpr g6) ?_
  refine V.iload_n d_Wr_makeBit_27 rfl ?_
  refine V.bipush (x := 7) d_Wr_makeBit_28 (by decide) ?_
  refine V.aload_n d_Wr_makeBit_30 rfl ?_
  refine V.get0 d_Wr_makeBit_31 rfl (List.mem_singleton.mpr g6) ?_
  refine V.bipush (x := 8) d_Wr_makeBit_34 (by decide) ?_
  refine V.irem d_Wr_makeBit_36 (by decide) ?_
  refine V.isub d_Wr_makeBit_37 ?_
  refine V.ishl d_Wr_makeBit_38 ?_
  obtain ⟨g7, hq⟩ := hq
  refine V.callV d_Wr_makeBit_39 (cV_call (t := [_]) (rs := []) rfl (Or.inl rfl) rfl (lk1 g7) ⟨leb rfl, leb rfl⟩) hq (fun h8 hq => ?_)
  refine V.aload_n d_Wr_makeBit_42 rfl ?_
  refine V.dupR d_Wr_makeBit_43 ?_
  obtain ⟨g10, hq⟩ := hq
  refine V.get0 d_Wr_makeBit_44 rfl (List.mem_singleton.mpr g10) ?_
  refine V.iconst (x := 1) d_Wr_makeBit_47 (by decide) ?_
  refine V.iadd d_Wr_makeBit_48 ?_
  refine V.put0 d_Wr_makeBit_49 rfl (Or.inl rfl) (List.mem_singleton.mpr g10) ?_
  replace hq := hq _ rfl
  refine V.iconst (x := 0) d_Wr_makeBit_52 (by decide) ?_
  refine V.iret d_Wr_makeBit_53 rfl ?_
  exact V.rI hq
