theorem w_Co_init {d : Nat} {K : Hp → Prop} {x0 : Nat} {h0 : Hp} (hq :
  (2 ≤ x0 ∧ (((hS h0 x0).1 = 5 ∨ (hS h0 x0).1 = 6) ∧ (∀ h3 : Hp, h3 = sI h0 x0 0 (0 : Int32) → (∀ h4 : Hp, h4 = sI h3 x0 1 (-1 : Int32) → (∀ h5 : Hp, h5 = sI h4 x0 2 (-1 : Int32) → K h5)))))) : Ca d m_Co_init [.ref x0] h0 (QV K) := by
  show Wp _ _ 0 [some (.ref x0)] [] h0 _
  refine V.aload_n d_Co_init_0 rfl ?_
  obtain ⟨g1, hq⟩ := hq
  refine V.objInit d_Co_init_1 rfl g1 (leb rfl) ?_
  refine V.aload_n d_Co_init_4 rfl ?_
  refine V.iconst (x := 0) d_Co_init_5 (by decide) ?_
  obtain ⟨g2, hq⟩ := hq
  refine V.put0 d_Co_init_6 rfl (Or.inl rfl) (mem2 g2) ?_
  replace hq := hq _ rfl
  refine V.aload_n d_Co_init_9 rfl ?_
  refine V.iconst (x := -1) d_Co_init_10 (by decide) ?_
  refine V.put0 d_Co_init_11 rfl (Or.inl rfl) (mem2 g2) ?_
  replace hq := hq _ rfl
  refine V.aload_n d_Co_init_14 rfl ?_
  refine V.iconst (x := -1) d_Co_init_15 (by decide) ?_
  refine V.put0 d_Co_init_16 rfl (Or.inl rfl) (mem2 g2) ?_
  replace hq := hq _ rfl
  refine V.vret d_Co_init_19 rfl ?_
  exact V.rV hq
theorem w_Co_pass {d : Nat} {K : Int32 → Hp → Prop} {x0 : Nat} {x1 : Nat} {h0 : Hp} (hq :
  ((hS h0 x1).1 = 3 ∧ Ca d m_Fo_whole [.ref x1] h0 (QR (fun v2 h3 => (((hS h3 x0).1 = 5 ∨ (hS h3 x0).1 = 6) ∧ Ca d m_Co_passType [.ref x0, .ref v2, .int (1 : Int32)] h3 (QI (fun v6 h7 => K v6 h7))))))) : Ca (d + 1) m_Co_pass [.ref x0, .ref x1] h0 (QI K) := by
  show Wp _ _ 0 [some (.ref x0), some (.ref x1)] [] h0 _
  refine V.aload_n d_Co_pass_0 rfl ?_
  refine V.aload_n d_Co_pass_1 rfl ?_
  obtain ⟨g1, hq⟩ := hq
  refine V.callR d_Co_pass_2 (cV_call (t := []) (rs := [_]) rfl (Or.inl rfl) rfl (lk1 g1) ⟨leb rfl, leb rfl⟩) hq (fun v2 h3 hq => ?_)
  refine V.iconst (x := 1) d_Co_pass_5 (by decide) ?_
  obtain ⟨g5, hq⟩ := hq
  refine V.callI d_Co_pass_6 (cV_call (t := [_, _]) (rs := []) rfl (Or.inr rfl) rfl (lk2 g5) ⟨leb rfl, leb rfl⟩) hq (fun v6 h7 hq => ?_)
  refine V.iret d_Co_pass_9 rfl ?_
  exact V.rI hq
theorem w_Co_bytesPassed {d : Nat} {K : Int32 → Hp → Prop} {x0 : Nat} {h0 : Hp} (hq :
  (((hS h0 x0).1 = 5 ∨ (hS h0 x0).1 = 6) ∧ K (((hI h0 x0 0) + (7 : Int32)) / (8 : Int32)) h0)) : Ca d m_Co_bytesPassed [.ref x0] h0 (QI K) := by
  show Wp _ _ 0 [some (.ref x0)] [] h0 _
  refine V.aload_n d_Co_bytesPassed_0 rfl ?_
  obtain ⟨g1, hq⟩ := hq
  refine V.get0 d_Co_bytesPassed_1 rfl (mem2 g1) ?_
  refine V.bipush (x := 7) d_Co_bytesPassed_4 (by decide) ?_
  refine V.iadd d_Co_bytesPassed_6 ?_
  refine V.bipush (x := 8) d_Co_bytesPassed_7 (by decide) ?_
  refine V.idiv d_Co_bytesPassed_9 (by decide) ?_
  refine V.iret d_Co_bytesPassed_10 rfl ?_
  exact V.rI hq
theorem w_Co_passType {d : Nat} {K : Int32 → Hp → Prop} {x0 : Nat} {x1 : Nat} {x2 : Int32} {h0 : Hp} (hq :
  (if x1 = 0 then K (2 : Int32) h0 else (if (5 : Int32) < x2 then K (2 : Int32) h0 else ((hS h0 x1).1 = 2 ∧ (if (hI h0 x1 0).toInt = 42 then (((hS h0 x0).1 = 5 ∨ (hS h0 x0).1 = 6) ∧ Ca d m_Co_passCounted [.ref x0, .ref x1, .int x2] h0 (QI (fun v3 h4 => K v3 h4))) else (if (hI h0 x1 0).toInt = 47 then (((hS h0 x0).1 = 5 ∨ (hS h0 x0).1 = 6) ∧ Ca d m_Co_passSized [.ref x0, .ref x1, .int x2] h0 (QI (fun v7 h8 => K v7 h8))) else (if (hI h0 x1 0).toInt = 63 then (((hS h0 x0).1 = 5 ∨ (hS h0 x0).1 = 6) ∧ Ca d m_Co_passChoice [.ref x0, .ref x1, .int x2] h0 (QI (fun v11 h12 => K v11 h12))) else (if (hI h0 x1 0).toInt = 123 then (((hS h0 x0).1 = 5 ∨ (hS h0 x0).1 = 6) ∧ Ca d m_Co_passFields [.ref x0, .ref x1, .int x2] h0 (QI (fun v15 h16 => K v15 h16))) else (((hS h0 x0).1 = 5 ∨ (hS h0 x0).1 = 6) ∧ Ca d m_Co_passUnit [.ref x0, .ref x1] h0 (QI (fun v19 h20 => K v19 h20))))))))))) : Ca (d + 1) m_Co_passType [.ref x0, .ref x1, .int x2] h0 (QI K) := by
  show Wp _ _ 0 [some (.ref x0), some (.ref x1), some (.int x2)] [] h0 _
  refine V.aload_n d_Co_passType_0 rfl ?_
  refine V.ifnull (t := 9) d_Co_passType_1 ⟨rfl, rfl⟩ (fun hc => ?_) (fun hc => ?_)
  · replace hq := ifp hc hq
    refine V.iconst (x := 2) d_Co_passType_9 (by decide) ?_
    refine V.iret d_Co_passType_10 rfl ?_
    exact V.rI hq
  · replace hq := ifn hc hq
    refine V.iload_n d_Co_passType_4 rfl ?_
    refine V.iconst (x := 5) d_Co_passType_5 (by decide) ?_
    refine V.ic_le (t := 11) d_Co_passType_6 ⟨rfl, rfl⟩ (fun hc => ?_) (fun hc => ?_)
    · replace hq := ifp hc hq
      refine V.iconst (x := 2) d_Co_passType_9 (by decide) ?_
      refine V.iret d_Co_passType_10 rfl ?_
      exact V.rI hq
    · replace hq := ifn hc hq
      refine V.aload_n d_Co_passType_11 rfl ?_
      obtain ⟨g1, hq⟩ := hq
      refine V.get0 d_Co_passType_12 rfl (List.mem_singleton.mpr g1) ?_
      refine V.lookup d_Co_passType_15 ⟨rfl, rfl, rfl⟩ ?_
      refine swW_c (fun hc => ?_) (fun hc => ?_)
      · replace hq := ifp hc hq
        refine V.tg (t := 63) rfl ?_
        refine V.aload_n d_Co_passType_63 rfl ?_
        refine V.aload_n d_Co_passType_64 rfl ?_
        refine V.iload_n d_Co_passType_65 rfl ?_
        obtain ⟨g2, hq⟩ := hq
        refine V.callI d_Co_passType_66 (cV_call (t := [_, _]) (rs := []) rfl (Or.inr rfl) rfl (lk2 g2) ⟨leb rfl, leb rfl⟩) hq (fun v3 h4 hq => ?_)
        refine V.iret d_Co_passType_69 rfl ?_
        exact V.rI hq
      · replace hq := ifn hc hq
        refine swW_c (fun hc => ?_) (fun hc => ?_)
        · replace hq := ifp hc hq
          refine V.tg (t := 70) rfl ?_
          refine V.aload_n d_Co_passType_70 rfl ?_
          refine V.aload_n d_Co_passType_71 rfl ?_
          refine V.iload_n d_Co_passType_72 rfl ?_
          obtain ⟨g6, hq⟩ := hq
          refine V.callI d_Co_passType_73 (cV_call (t := [_, _]) (rs := []) rfl (Or.inr rfl) rfl (lk2 g6) ⟨leb rfl, leb rfl⟩) hq (fun v7 h8 hq => ?_)
          refine V.iret d_Co_passType_76 rfl ?_
          exact V.rI hq
        · replace hq := ifn hc hq
          refine swW_c (fun hc => ?_) (fun hc => ?_)
          · replace hq := ifp hc hq
            refine V.tg (t := 77) rfl ?_
            refine V.aload_n d_Co_passType_77 rfl ?_
            refine V.aload_n d_Co_passType_78 rfl ?_
            refine V.iload_n d_Co_passType_79 rfl ?_
            obtain ⟨g10, hq⟩ := hq
            refine V.callI d_Co_passType_80 (cV_call (t := [_, _]) (rs := []) rfl (Or.inr rfl) rfl (lk2 g10) ⟨leb rfl, leb rfl⟩) hq (fun v11 h12 hq => ?_)
            refine V.iret d_Co_passType_83 rfl ?_
            exact V.rI hq
          · replace hq := ifn hc hq
            refine swW_c (fun hc => ?_) (fun hc => ?_)
            · replace hq := ifp hc hq
              refine V.tg (t := 56) rfl ?_
              refine V.aload_n d_Co_passType_56 rfl ?_
              refine V.aload_n d_Co_passType_57 rfl ?_
              refine V.iload_n d_Co_passType_58 rfl ?_
              obtain ⟨g14, hq⟩ := hq
              refine V.callI d_Co_passType_59 (cV_call (t := [_, _]) (rs := []) rfl (Or.inr rfl) rfl (lk2 g14) ⟨leb rfl, leb rfl⟩) hq (fun v15 h16 hq => ?_)
              refine V.iret d_Co_passType_62 rfl ?_
              exact V.rI hq
            · replace hq := ifn hc hq
              refine V.tg (t := 84) rfl ?_
              refine V.aload_n d_Co_passType_84 rfl ?_
              refine V.aload_n d_Co_passType_85 rfl ?_
              obtain ⟨g18, hq⟩ := hq
              refine V.callI d_Co_passType_86 (cV_call (t := [_]) (rs := []) rfl (Or.inr rfl) rfl (lk2 g18) ⟨leb rfl, leb rfl⟩) hq (fun v19 h20 hq => ?_)
              refine V.iret d_Co_passType_89 rfl ?_
              exact V.rI hq
theorem w_Co_passUnit {d : Nat} {K : Int32 → Hp → Prop} {x0 : Nat} {x1 : Nat} {h0 : Hp} (hq :
  (((hS h0 x0).1 = 5 ∨ (hS h0 x0).1 = 6) ∧ (∀ h2 : Hp, h2 = sI h0 x0 1 ((hI h0 x0 0) / (8 : Int32)) → ((hS h0 x1).1 = 2 ∧ (∀ h4 : Hp, h4 = sI h2 x0 2 (hI h2 x1 2) → (if (hI h4 x1 0).toInt = 112 then (if (hS h0 x0).1 = 5 then Ca d m_Re_passBits [.ref x0, .ref x1] h4 (QI (fun v5 h6 => K v5 h6)) else Ca d m_Wr_passBits [.ref x0, .ref x1] h4 (QI (fun v8 h9 => K v8 h9))) else (if (hI h4 x1 0).toInt = 114 then (if (hS h0 x0).1 = 5 then Ca d m_Re_passRest [.ref x0] h4 (QI (fun v11 h12 => K v11 h12)) else Ca d m_Wr_passRest [.ref x0] h4 (QI (fun v14 h15 => K v14 h15))) else (if (hI h4 x1 0).toInt = 122 then (if (hS h0 x0).1 = 5 then Ca d m_Re_passWords [.ref x0] h4 (QI (fun v17 h18 => K v17 h18)) else Ca d m_Wr_passWords [.ref x0] h4 (QI (fun v20 h21 => K v20 h21))) else (if (hS h0 x0).1 = 5 then Ca d m_Re_passNumber [.ref x0, .ref x1] h4 (QI (fun v23 h24 => K v23 h24)) else Ca d m_Wr_passNumber [.ref x0, .ref x1] h4 (QI (fun v26 h27 => K v26 h27))))))))))) : Ca (d + 1) m_Co_passUnit [.ref x0, .ref x1] h0 (QI K) := by
  show Wp _ _ 0 [some (.ref x0), some (.ref x1)] [] h0 _
  refine V.aload_n d_Co_passUnit_0 rfl ?_
  refine V.aload_n d_Co_passUnit_1 rfl ?_
  obtain ⟨g1, hq⟩ := hq
  refine V.get0 d_Co_passUnit_2 rfl (mem2 g1) ?_
  refine V.bipush (x := 8) d_Co_passUnit_5 (by decide) ?_
  refine V.idiv d_Co_passUnit_7 (by decide) ?_
  refine V.put0 d_Co_passUnit_8 rfl (Or.inl rfl) (mem2 g1) ?_
  replace hq := hq _ rfl
  refine V.aload_n d_Co_passUnit_11 rfl ?_
  refine V.aload_n d_Co_passUnit_12 rfl ?_
  obtain ⟨g3, hq⟩ := hq
  refine V.get0 d_Co_passUnit_13 rfl (List.mem_singleton.mpr g3) ?_
  refine V.put0 d_Co_passUnit_16 rfl (Or.inl rfl) (mem2 g1) ?_
  replace hq := hq _ rfl
  refine V.aload_n d_Co_passUnit_19 rfl ?_
  refine V.get0 d_Co_passUnit_20 rfl (List.mem_singleton.mpr g3) ?_
  refine V.lookup d_Co_passUnit_23 ⟨rfl, rfl, rfl⟩ ?_
  refine swW_c (fun hc => ?_) (fun hc => ?_)
  · replace hq := ifp hc hq
    refine V.tg (t := 56) rfl ?_
    refine V.aload_n d_Co_passUnit_56 rfl ?_
    refine V.aload_n d_Co_passUnit_57 rfl ?_
    refine byc hq (fun hc hq => ?_) (fun hc hq => ?_)
    · refine V.callI d_Co_passUnit_58 (cV_call (t := [_]) (rs := []) rfl (Or.inr rfl) rfl (lk2a hc) ⟨leb rfl, leb rfl⟩) hq (fun v5 h6 hq => ?_)
      refine V.iret d_Co_passUnit_61 rfl ?_
      exact V.rI hq
    · refine V.callI d_Co_passUnit_58 (cV_call (t := [_]) (rs := []) rfl (Or.inr rfl) rfl (lk2b (by decide) (Or.resolve_left g1 hc)) ⟨leb rfl, leb rfl⟩) hq (fun v8 h9 hq => ?_)
      refine V.iret d_Co_passUnit_61 rfl ?_
      exact V.rI hq
  · replace hq := ifn hc hq
    refine swW_c (fun hc => ?_) (fun hc => ?_)
    · replace hq := ifp hc hq
      refine V.tg (t := 67) rfl ?_
      refine V.aload_n d_Co_passUnit_67 rfl ?_
      refine byc hq (fun hc hq => ?_) (fun hc hq => ?_)
      · refine V.callI d_Co_passUnit_68 (cV_call (t := []) (rs := []) rfl (Or.inr rfl) rfl (lk2a hc) ⟨leb rfl, leb rfl⟩) hq (fun v11 h12 hq => ?_)
        refine V.iret d_Co_passUnit_71 rfl ?_
        exact V.rI hq
      · refine V.callI d_Co_passUnit_68 (cV_call (t := []) (rs := []) rfl (Or.inr rfl) rfl (lk2b (by decide) (Or.resolve_left g1 hc)) ⟨leb rfl, leb rfl⟩) hq (fun v14 h15 hq => ?_)
        refine V.iret d_Co_passUnit_71 rfl ?_
        exact V.rI hq
    · replace hq := ifn hc hq
      refine swW_c (fun hc => ?_) (fun hc => ?_)
      · replace hq := ifp hc hq
        refine V.tg (t := 62) rfl ?_
        refine V.aload_n d_Co_passUnit_62 rfl ?_
        refine byc hq (fun hc hq => ?_) (fun hc hq => ?_)
        · refine V.callI d_Co_passUnit_63 (cV_call (t := []) (rs := []) rfl (Or.inr rfl) rfl (lk2a hc) ⟨leb rfl, leb rfl⟩) hq (fun v17 h18 hq => ?_)
          refine V.iret d_Co_passUnit_66 rfl ?_
          exact V.rI hq
        · refine V.callI d_Co_passUnit_63 (cV_call (t := []) (rs := []) rfl (Or.inr rfl) rfl (lk2b (by decide) (Or.resolve_left g1 hc)) ⟨leb rfl, leb rfl⟩) hq (fun v20 h21 hq => ?_)
          refine V.iret d_Co_passUnit_66 rfl ?_
          exact V.rI hq
      · replace hq := ifn hc hq
        refine V.tg (t := 72) rfl ?_
        refine V.aload_n d_Co_passUnit_72 rfl ?_
        refine V.aload_n d_Co_passUnit_73 rfl ?_
        refine byc hq (fun hc hq => ?_) (fun hc hq => ?_)
        · refine V.callI d_Co_passUnit_74 (cV_call (t := [_]) (rs := []) rfl (Or.inr rfl) rfl (lk2a hc) ⟨leb rfl, leb rfl⟩) hq (fun v23 h24 hq => ?_)
          refine V.iret d_Co_passUnit_77 rfl ?_
          exact V.rI hq
        · refine V.callI d_Co_passUnit_74 (cV_call (t := [_]) (rs := []) rfl (Or.inr rfl) rfl (lk2b (by decide) (Or.resolve_left g1 hc)) ⟨leb rfl, leb rfl⟩) hq (fun v26 h27 hq => ?_)
          refine V.iret d_Co_passUnit_77 rfl ?_
          exact V.rI hq
theorem w_Co_passFields {d : Nat} {K : Int32 → Hp → Prop} {x0 : Nat} {x1 : Nat} {x2 : Int32} {h0 : Hp} (hq :
  ((hS h0 x1).1 = 2 ∧ (∀ v2 : Nat, v2 = (hR h0 x1 9) → Wp (d + 1) m_Co_passFields 5 [some (.ref x0), some (.ref x1), some (.int x2), some (.ref v2), none] [] h0 (QI K)))) : Ca (d + 1) m_Co_passFields [.ref x0, .ref x1, .int x2] h0 (QI K) := by
  show Wp _ _ 0 [some (.ref x0), some (.ref x1), some (.int x2), none, none] [] h0 _
  refine V.aload_n d_Co_passFields_0 rfl ?_
  obtain ⟨g1, hq⟩ := hq
  refine V.get2 d_Co_passFields_1 rfl (List.mem_singleton.mpr g1) ?_
  replace hq := hq _ rfl
  refine V.astore_n (l' := [_, _, _, _, _]) d_Co_passFields_4 rfl (ltb rfl) ?_
  exact hq
set_option maxRecDepth 100000 in
theorem w_Co_passFields_5 {d : Nat} {K : Int32 → Hp → Prop} {x0 : Nat} {y1 : Option Value} {x2 : Int32} {x3 : Nat} {y4 : Option Value} {h0 : Hp} (hq :
  (if x3 = 0 then (((hS h0 x0).1 = 5 ∨ (hS h0 x0).1 = 6) ∧ (if (hS h0 x0).1 = 5 then Ca d m_Re_passSpare [.ref x0] h0 (QI (fun v4 h5 => K v4 h5)) else Ca d m_Wr_passSpare [.ref x0] h0 (QI (fun v7 h8 => K v7 h8)))) else ((hS h0 x3).1 = 2 ∧ (if (hI h0 x3 0) = (112 : Int32) then (if (0 : Int32) = 0 then (((hS h0 x0).1 = 5 ∨ (hS h0 x0).1 = 6) ∧ Ca d m_Co_passType [.ref x0, .ref x3, .int (x2 + (1 : Int32))] h0 (QI (fun v12 h13 => (if v12 = 0 then ((hS h13 x3).1 = 2 ∧ (∀ v16 : Nat, v16 = (hR h13 x3 8) → Wp (d + 1) m_Co_passFields 5 [some (.ref x0), y1, some (.int x2), some (.ref v16), some (.int v12)] [] h13 (QI K))) else K v12 h13)))) else (if (0 : Int32) = 0 then (∀ v17 : Nat, v17 = (hR h0 x3 8) → Wp (d + 1) m_Co_passFields 5 [some (.ref x0), y1, some (.int x2), some (.ref v17), some (.int (0 : Int32))] [] h0 (QI K)) else K (0 : Int32) h0)) else (((hS h0 x0).1 = 5 ∨ (hS h0 x0).1 = 6) ∧ (if (hS h0 x0).1 = 5 then Ca d m_Re_passSpare [.ref x0] h0 (QI (fun v19 h20 => (if v19 = 0 then (((hS h20 x0).1 = 5 ∨ (hS h20 x0).1 = 6) ∧ Ca d m_Co_passType [.ref x0, .ref x3, .int (x2 + (1 : Int32))] h20 (QI (fun v23 h24 => (if v23 = 0 then ((hS h24 x3).1 = 2 ∧ (∀ v27 : Nat, v27 = (hR h24 x3 8) → Wp (d + 1) m_Co_passFields 5 [some (.ref x0), y1, some (.int x2), some (.ref v27), some (.int v23)] [] h24 (QI K))) else K v23 h24)))) else (if v19 = 0 then ((hS h20 x3).1 = 2 ∧ (∀ v29 : Nat, v29 = (hR h20 x3 8) → Wp (d + 1) m_Co_passFields 5 [some (.ref x0), y1, some (.int x2), some (.ref v29), some (.int v19)] [] h20 (QI K))) else K v19 h20)))) else Ca d m_Wr_passSpare [.ref x0] h0 (QI (fun v30 h31 => (if v30 = 0 then (((hS h31 x0).1 = 5 ∨ (hS h31 x0).1 = 6) ∧ Ca d m_Co_passType [.ref x0, .ref x3, .int (x2 + (1 : Int32))] h31 (QI (fun v34 h35 => (if v34 = 0 then ((hS h35 x3).1 = 2 ∧ (∀ v38 : Nat, v38 = (hR h35 x3 8) → Wp (d + 1) m_Co_passFields 5 [some (.ref x0), y1, some (.int x2), some (.ref v38), some (.int v34)] [] h35 (QI K))) else K v34 h35)))) else (if v30 = 0 then ((hS h31 x3).1 = 2 ∧ (∀ v40 : Nat, v40 = (hR h31 x3 8) → Wp (d + 1) m_Co_passFields 5 [some (.ref x0), y1, some (.int x2), some (.ref v40), some (.int v30)] [] h31 (QI K))) else K v30 h31)))))))))) : Wp (d + 1) m_Co_passFields 5 [some (.ref x0), y1, some (.int x2), some (.ref x3), y4] [] h0 (QI K) := by
  refine V.aload_n d_Co_passFields_5 rfl ?_
  refine V.ifnull (t := 59) d_Co_passFields_6 ⟨rfl, rfl⟩ (fun hc => ?_) (fun hc => ?_)
  · replace hq := ifp hc hq
    refine V.aload_n d_Co_passFields_59 rfl ?_
    obtain ⟨g3, hq⟩ := hq
    refine byc hq (fun hc hq => ?_) (fun hc hq => ?_)
    · refine V.callI d_Co_passFields_60 (cV_call (t := []) (rs := []) rfl (Or.inr rfl) rfl (lk2a hc) ⟨leb rfl, leb rfl⟩) hq (fun v4 h5 hq => ?_)
      refine V.iret d_Co_passFields_63 rfl ?_
      exact V.rI hq
    · refine V.callI d_Co_passFields_60 (cV_call (t := []) (rs := []) rfl (Or.inr rfl) rfl (lk2b (by decide) (Or.resolve_left g3 hc)) ⟨leb rfl, leb rfl⟩) hq (fun v7 h8 hq => ?_)
      refine V.iret d_Co_passFields_63 rfl ?_
      exact V.rI hq
  · replace hq := ifn hc hq
    refine V.aload_n d_Co_passFields_9 rfl ?_
    obtain ⟨g10, hq⟩ := hq
    refine V.get0 d_Co_passFields_10 rfl (List.mem_singleton.mpr g10) ?_
    refine V.bipush (x := 112) d_Co_passFields_13 (by decide) ?_
    refine V.ic_ne (t := 22) d_Co_passFields_15 ⟨rfl, rfl⟩ (fun hc => ?_) (fun hc => ?_)
    · replace hq := ifp hc hq
      refine V.iconst (x := 0) d_Co_passFields_18 (by decide) ?_
      refine V.goto (t := 26) d_Co_passFields_19 ⟨rfl, rfl⟩ ?_
      refine V.istore (l' := [_, _, _, _, _]) d_Co_passFields_26 rfl (ltb rfl) ?_
      refine V.iload d_Co_passFields_28 rfl ?_
      refine V.if_ne (t := 43) d_Co_passFields_30 ⟨rfl, rfl⟩ (fun hc => ?_) (fun hc => ?_)
      · replace hq := ifp hc hq
        refine V.aload_n d_Co_passFields_33 rfl ?_
        refine V.aload_n d_Co_passFields_34 rfl ?_
        refine V.iload_n d_Co_passFields_35 rfl ?_
        refine V.iconst (x := 1) d_Co_passFields_36 (by decide) ?_
        refine V.iadd d_Co_passFields_37 ?_
        obtain ⟨g11, hq⟩ := hq
        refine V.callI d_Co_passFields_38 (cV_call (t := [_, _]) (rs := []) rfl (Or.inr rfl) rfl (lk2 g11) ⟨leb rfl, leb rfl⟩) hq (fun v12 h13 hq => ?_)
        refine V.istore (l' := [_, _, _, _, _]) d_Co_passFields_41 rfl (ltb rfl) ?_
        refine V.iload d_Co_passFields_43 rfl ?_
        refine V.if_eq (t := 51) d_Co_passFields_45 ⟨rfl, rfl⟩ (fun hc => ?_) (fun hc => ?_)
        · replace hq := ifp hc hq
          refine V.aload_n d_Co_passFields_51 rfl ?_
          obtain ⟨g15, hq⟩ := hq
          refine V.get2 d_Co_passFields_52 rfl (List.mem_singleton.mpr g15) ?_
          replace hq := hq _ rfl
          refine V.astore_n (l' := [_, _, _, _, _]) d_Co_passFields_55 rfl (ltb rfl) ?_
          refine V.goto (t := 5) d_Co_passFields_56 ⟨rfl, rfl⟩ ?_
          exact hq
        · replace hq := ifn hc hq
          refine V.iload d_Co_passFields_48 rfl ?_
          refine V.iret d_Co_passFields_50 rfl ?_
          exact V.rI hq
      · replace hq := ifn hc hq
        refine V.iload d_Co_passFields_43 rfl ?_
        refine V.if_eq (t := 51) d_Co_passFields_45 ⟨rfl, rfl⟩ (fun hc => ?_) (fun hc => ?_)
        · replace hq := ifp hc hq
          refine V.aload_n d_Co_passFields_51 rfl ?_
          refine V.get2 d_Co_passFields_52 rfl (List.mem_singleton.mpr g10) ?_
          replace hq := hq _ rfl
          refine V.astore_n (l' := [_, _, _, _, _]) d_Co_passFields_55 rfl (ltb rfl) ?_
          refine V.goto (t := 5) d_Co_passFields_56 ⟨rfl, rfl⟩ ?_
          exact hq
        · replace hq := ifn hc hq
          refine V.iload d_Co_passFields_48 rfl ?_
          refine V.iret d_Co_passFields_50 rfl ?_
          exact V.rI hq
    · replace hq := ifn hc hq
      refine V.aload_n d_Co_passFields_22 rfl ?_
      obtain ⟨g18, hq⟩ := hq
      refine byc hq (fun hc hq => ?_) (fun hc hq => ?_)
      · refine V.callI d_Co_passFields_23 (cV_call (t := []) (rs := []) rfl (Or.inr rfl) rfl (lk2a hc) ⟨leb rfl, leb rfl⟩) hq (fun v19 h20 hq => ?_)
        refine V.istore (l' := [_, _, _, _, _]) d_Co_passFields_26 rfl (ltb rfl) ?_
        refine V.iload d_Co_passFields_28 rfl ?_
        refine V.if_ne (t := 43) d_Co_passFields_30 ⟨rfl, rfl⟩ (fun hc => ?_) (fun hc => ?_)
        · replace hq := ifp hc hq
          refine V.aload_n d_Co_passFields_33 rfl ?_
          refine V.aload_n d_Co_passFields_34 rfl ?_
          refine V.iload_n d_Co_passFields_35 rfl ?_
          refine V.iconst (x := 1) d_Co_passFields_36 (by decide) ?_
          refine V.iadd d_Co_passFields_37 ?_
          obtain ⟨g22, hq⟩ := hq
          refine V.callI d_Co_passFields_38 (cV_call (t := [_, _]) (rs := []) rfl (Or.inr rfl) rfl (lk2 g22) ⟨leb rfl, leb rfl⟩) hq (fun v23 h24 hq => ?_)
          refine V.istore (l' := [_, _, _, _, _]) d_Co_passFields_41 rfl (ltb rfl) ?_
          refine V.iload d_Co_passFields_43 rfl ?_
          refine V.if_eq (t := 51) d_Co_passFields_45 ⟨rfl, rfl⟩ (fun hc => ?_) (fun hc => ?_)
          · replace hq := ifp hc hq
            refine V.aload_n d_Co_passFields_51 rfl ?_
            obtain ⟨g26, hq⟩ := hq
            refine V.get2 d_Co_passFields_52 rfl (List.mem_singleton.mpr g26) ?_
            replace hq := hq _ rfl
            refine V.astore_n (l' := [_, _, _, _, _]) d_Co_passFields_55 rfl (ltb rfl) ?_
            refine V.goto (t := 5) d_Co_passFields_56 ⟨rfl, rfl⟩ ?_
            exact hq
          · replace hq := ifn hc hq
            refine V.iload d_Co_passFields_48 rfl ?_
            refine V.iret d_Co_passFields_50 rfl ?_
            exact V.rI hq
        · replace hq := ifn hc hq
          refine V.iload d_Co_passFields_43 rfl ?_
          refine V.if_eq (t := 51) d_Co_passFields_45 ⟨rfl, rfl⟩ (fun hc => ?_) (fun hc => ?_)
          · replace hq := ifp hc hq
            refine V.aload_n d_Co_passFields_51 rfl ?_
            obtain ⟨g28, hq⟩ := hq
            refine V.get2 d_Co_passFields_52 rfl (List.mem_singleton.mpr g28) ?_
            replace hq := hq _ rfl
            refine V.astore_n (l' := [_, _, _, _, _]) d_Co_passFields_55 rfl (ltb rfl) ?_
            refine V.goto (t := 5) d_Co_passFields_56 ⟨rfl, rfl⟩ ?_
            exact hq
          · replace hq := ifn hc hq
            refine V.iload d_Co_passFields_48 rfl ?_
            refine V.iret d_Co_passFields_50 rfl ?_
            exact V.rI hq
      · refine V.callI d_Co_passFields_23 (cV_call (t := []) (rs := []) rfl (Or.inr rfl) rfl (lk2b (by decide) (Or.resolve_left g18 hc)) ⟨leb rfl, leb rfl⟩) hq (fun v30 h31 hq => ?_)
        refine V.istore (l' := [_, _, _, _, _]) d_Co_passFields_26 rfl (ltb rfl) ?_
        refine V.iload d_Co_passFields_28 rfl ?_
        refine V.if_ne (t := 43) d_Co_passFields_30 ⟨rfl, rfl⟩ (fun hc => ?_) (fun hc => ?_)
        · replace hq := ifp hc hq
          refine V.aload_n d_Co_passFields_33 rfl ?_
          refine V.aload_n d_Co_passFields_34 rfl ?_
          refine V.iload_n d_Co_passFields_35 rfl ?_
          refine V.iconst (x := 1) d_Co_passFields_36 (by decide) ?_
          refine V.iadd d_Co_passFields_37 ?_
          obtain ⟨g33, hq⟩ := hq
          refine V.callI d_Co_passFields_38 (cV_call (t := [_, _]) (rs := []) rfl (Or.inr rfl) rfl (lk2 g33) ⟨leb rfl, leb rfl⟩) hq (fun v34 h35 hq => ?_)
          refine V.istore (l' := [_, _, _, _, _]) d_Co_passFields_41 rfl (ltb rfl) ?_
          refine V.iload d_Co_passFields_43 rfl ?_
          refine V.if_eq (t := 51) d_Co_passFields_45 ⟨rfl, rfl⟩ (fun hc => ?_) (fun hc => ?_)
          · replace hq := ifp hc hq
            refine V.aload_n d_Co_passFields_51 rfl ?_
            obtain ⟨g37, hq⟩ := hq
            refine V.get2 d_Co_passFields_52 rfl (List.mem_singleton.mpr g37) ?_
            replace hq := hq _ rfl
            refine V.astore_n (l' := [_, _, _, _, _]) d_Co_passFields_55 rfl (ltb rfl) ?_
            refine V.goto (t := 5) d_Co_passFields_56 ⟨rfl, rfl⟩ ?_
            exact hq
          · replace hq := ifn hc hq
            refine V.iload d_Co_passFields_48 rfl ?_
            refine V.iret d_Co_passFields_50 rfl ?_
            exact V.rI hq
        · replace hq := ifn hc hq
          refine V.iload d_Co_passFields_43 rfl ?_
          refine V.if_eq (t := 51) d_Co_passFields_45 ⟨rfl, rfl⟩ (fun hc => ?_) (fun hc => ?_)
          · replace hq := ifp hc hq
            refine V.aload_n d_Co_passFields_51 rfl ?_
            obtain ⟨g39, hq⟩ := hq
            refine V.get2 d_Co_passFields_52 rfl (List.mem_singleton.mpr g39) ?_
            replace hq := hq _ rfl
            refine V.astore_n (l' := [_, _, _, _, _]) d_Co_passFields_55 rfl (ltb rfl) ?_
            refine V.goto (t := 5) d_Co_passFields_56 ⟨rfl, rfl⟩ ?_
            exact hq
          · replace hq := ifn hc hq
            refine V.iload d_Co_passFields_48 rfl ?_
            refine V.iret d_Co_passFields_50 rfl ?_
            exact V.rI hq
theorem w_Co_passCounted {d : Nat} {K : Int32 → Hp → Prop} {x0 : Nat} {x1 : Nat} {x2 : Int32} {h0 : Hp} (hq :
  Ca d m_Co_told [.ref x1] h0 (QL (fun v1 h2 => (if v1 < (0 : Int64) then Wp (d + 1) m_Co_passCounted 21 [some (.ref x0), some (.ref x1), some (.int x2), some (.long v1), none, some (.int (2 : Int32)), some (.long (0 : Int64)), none] [] h2 (QI K) else Wp (d + 1) m_Co_passCounted 21 [some (.ref x0), some (.ref x1), some (.int x2), some (.long v1), none, some (.int (0 : Int32)), some (.long (0 : Int64)), none] [] h2 (QI K))))) : Ca (d + 1) m_Co_passCounted [.ref x0, .ref x1, .int x2] h0 (QI K) := by
  show Wp _ _ 0 [some (.ref x0), some (.ref x1), some (.int x2), none, none, none, none, none] [] h0 _
  refine V.aload_n d_Co_passCounted_0 rfl ?_
  refine V.callL d_Co_passCounted_1 (cS_call (as := [_]) (rs := []) rfl rfl ⟨leb rfl, leb rfl⟩) hq (fun v1 h2 hq => ?_)
  refine V.lstore_n (l' := [_, _, _, _, _, _, _, _]) d_Co_passCounted_4 rfl (ltb rfl) ?_
  refine V.lload_n d_Co_passCounted_5 rfl ?_
  refine V.lconst (x := 0) d_Co_passCounted_6 (by decide) ?_
  refine V.lc_ge d_Co_passCounted_7 d_Co_passCounted_8 ⟨rfl, rfl⟩ (fun hc => ?_) (fun hc => ?_)
  · replace hq := ifp hc hq
    refine V.iconst (x := 2) d_Co_passCounted_11 (by decide) ?_
    refine V.goto (t := 16) d_Co_passCounted_12 ⟨rfl, rfl⟩ ?_
    refine V.istore (l' := [_, _, _, _, _, _, _, _]) d_Co_passCounted_16 rfl (ltb rfl) ?_
    refine V.lconst (x := 0) d_Co_passCounted_18 (by decide) ?_
    refine V.lstore (l' := [_, _, _, _, _, _, _, _]) d_Co_passCounted_19 rfl (ltb rfl) ?_
    exact hq
  · replace hq := ifn hc hq
    refine V.iconst (x := 0) d_Co_passCounted_15 (by decide) ?_
    refine V.istore (l' := [_, _, _, _, _, _, _, _]) d_Co_passCounted_16 rfl (ltb rfl) ?_
    refine V.lconst (x := 0) d_Co_passCounted_18 (by decide) ?_
    refine V.lstore (l' := [_, _, _, _, _, _, _, _]) d_Co_passCounted_19 rfl (ltb rfl) ?_
    exact hq
theorem w_Co_passCounted_21 {d : Nat} {K : Int32 → Hp → Prop} {x0 : Nat} {x1 : Nat} {x2 : Int32} {x3 : Int64} {x5 : Int32} {x6 : Int64} {h0 : Hp} (hq :
  (if x6 < x3 then (if x5 = 0 then ((hS h0 x1).1 = 2 ∧ (((hS h0 x0).1 = 5 ∨ (hS h0 x0).1 = 6) ∧ Ca d m_Co_passType [.ref x0, .ref (hR h0 x1 9), .int (x2 + (1 : Int32))] h0 (QI (fun v6 h7 => (∀ v9 : Int64, v9 = (x6 + (1 : Int64)) → Wp (d + 1) m_Co_passCounted 21 [some (.ref x0), some (.ref x1), some (.int x2), some (.long x3), none, some (.int v6), some (.long v9), none] [] h7 (QI K)))))) else K x5 h0) else K x5 h0)) : Wp (d + 1) m_Co_passCounted 21 [some (.ref x0), some (.ref x1), some (.int x2), some (.long x3), none, some (.int x5), some (.long x6), none] [] h0 (QI K) := by
  refine V.lload d_Co_passCounted_21 rfl ?_
  refine V.lload_n d_Co_passCounted_23 rfl ?_
  refine V.lc_ge d_Co_passCounted_24 d_Co_passCounted_25 ⟨rfl, rfl⟩ (fun hc => ?_) (fun hc => ?_)
  · replace hq := ifp hc hq
    refine V.iload d_Co_passCounted_28 rfl ?_
    refine V.if_ne (t := 55) d_Co_passCounted_30 ⟨rfl, rfl⟩ (fun hc => ?_) (fun hc => ?_)
    · replace hq := ifp hc hq
      refine V.aload_n d_Co_passCounted_33 rfl ?_
      refine V.aload_n d_Co_passCounted_34 rfl ?_
      obtain ⟨g4, hq⟩ := hq
      refine V.get2 d_Co_passCounted_35 rfl (List.mem_singleton.mpr g4) ?_
      refine V.iload_n d_Co_passCounted_38 rfl ?_
      refine V.iconst (x := 1) d_Co_passCounted_39 (by decide) ?_
      refine V.iadd d_Co_passCounted_40 ?_
      obtain ⟨g5, hq⟩ := hq
      refine V.callI d_Co_passCounted_41 (cV_call (t := [_, _]) (rs := []) rfl (Or.inr rfl) rfl (lk2 g5) ⟨leb rfl, leb rfl⟩) hq (fun v6 h7 hq => ?_)
      refine V.istore (l' := [_, _, _, _, _, _, _, _]) d_Co_passCounted_44 rfl (ltb rfl) ?_
      refine V.lload d_Co_passCounted_46 rfl ?_
      refine V.lconst (x := 1) d_Co_passCounted_48 (by decide) ?_
      refine V.ladd d_Co_passCounted_49 ?_
      replace hq := hq _ rfl
      refine V.lstore (l' := [_, _, _, _, _, _, _, _]) d_Co_passCounted_50 rfl (ltb rfl) ?_
      refine V.goto (t := 21) d_Co_passCounted_52 ⟨rfl, rfl⟩ ?_
      exact hq
    · replace hq := ifn hc hq
      refine V.iload d_Co_passCounted_55 rfl ?_
      refine V.iret d_Co_passCounted_57 rfl ?_
      exact V.rI hq
  · replace hq := ifn hc hq
    refine V.iload d_Co_passCounted_55 rfl ?_
    refine V.iret d_Co_passCounted_57 rfl ?_
    exact V.rI hq
theorem w_Co_passSized {d : Nat} {K : Int32 → Hp → Prop} {x0 : Nat} {x1 : Nat} {x2 : Int32} {h0 : Hp} (hq :
  Ca d m_Co_told [.ref x1] h0 (QL (fun v1 h2 => (if v1 < (0 : Int64) then (((hS h2 x0).1 = 5 ∨ (hS h2 x0).1 = 6) ∧ Ca d m_Co_bytesPassed [.ref x0] h2 (QI (fun v5 h6 => (∀ v8 : Int64, v8 = ((v5.toInt64) + v1) → Wp (d + 1) m_Co_passSized 30 [some (.ref x0), some (.ref x1), some (.int x2), some (.long v1), none, some (.int (2 : Int32)), some (.long v8), none, some (.int (0 : Int32))] [] h6 (QI K))))) else (((hS h2 x0).1 = 5 ∨ (hS h2 x0).1 = 6) ∧ Ca d m_Co_bytesPassed [.ref x0] h2 (QI (fun v10 h11 => (∀ v13 : Int64, v13 = ((v10.toInt64) + v1) → Wp (d + 1) m_Co_passSized 30 [some (.ref x0), some (.ref x1), some (.int x2), some (.long v1), none, some (.int (0 : Int32)), some (.long v13), none, some (.int (0 : Int32))] [] h11 (QI K))))))))) : Ca (d + 1) m_Co_passSized [.ref x0, .ref x1, .int x2] h0 (QI K) := by
  show Wp _ _ 0 [some (.ref x0), some (.ref x1), some (.int x2), none, none, none, none, none, none] [] h0 _
  refine V.aload_n d_Co_passSized_0 rfl ?_
  refine V.callL d_Co_passSized_1 (cS_call (as := [_]) (rs := []) rfl rfl ⟨leb rfl, leb rfl⟩) hq (fun v1 h2 hq => ?_)
  refine V.lstore_n (l' := [_, _, _, _, _, _, _, _, _]) d_Co_passSized_4 rfl (ltb rfl) ?_
  refine V.lload_n d_Co_passSized_5 rfl ?_
  refine V.lconst (x := 0) d_Co_passSized_6 (by decide) ?_
  refine V.lc_ge d_Co_passSized_7 d_Co_passSized_8 ⟨rfl, rfl⟩ (fun hc => ?_) (fun hc => ?_)
  · replace hq := ifp hc hq
    refine V.iconst (x := 2) d_Co_passSized_11 (by decide) ?_
    refine V.goto (t := 16) d_Co_passSized_12 ⟨rfl, rfl⟩ ?_
    refine V.istore (l' := [_, _, _, _, _, _, _, _, _]) d_Co_passSized_16 rfl (ltb rfl) ?_
    refine V.aload_n d_Co_passSized_18 rfl ?_
    obtain ⟨g4, hq⟩ := hq
    refine V.callI d_Co_passSized_19 (cV_call (t := []) (rs := []) rfl (Or.inr rfl) rfl (lk2 g4) ⟨leb rfl, leb rfl⟩) hq (fun v5 h6 hq => ?_)
    refine V.i2l d_Co_passSized_22 ?_
    refine V.lload_n d_Co_passSized_23 rfl ?_
    refine V.ladd d_Co_passSized_24 ?_
    replace hq := hq _ rfl
    refine V.lstore (l' := [_, _, _, _, _, _, _, _, _]) d_Co_passSized_25 rfl (ltb rfl) ?_
    refine V.iconst (x := 0) d_Co_passSized_27 (by decide) ?_
    refine V.istore (l' := [_, _, _, _, _, _, _, _, _]) d_Co_passSized_28 rfl (ltb rfl) ?_
    exact hq
  · replace hq := ifn hc hq
    refine V.iconst (x := 0) d_Co_passSized_15 (by decide) ?_
    refine V.istore (l' := [_, _, _, _, _, _, _, _, _]) d_Co_passSized_16 rfl (ltb rfl) ?_
    refine V.aload_n d_Co_passSized_18 rfl ?_
    obtain ⟨g9, hq⟩ := hq
    refine V.callI d_Co_passSized_19 (cV_call (t := []) (rs := []) rfl (Or.inr rfl) rfl (lk2 g9) ⟨leb rfl, leb rfl⟩) hq (fun v10 h11 hq => ?_)
    refine V.i2l d_Co_passSized_22 ?_
    refine V.lload_n d_Co_passSized_23 rfl ?_
    refine V.ladd d_Co_passSized_24 ?_
    replace hq := hq _ rfl
    refine V.lstore (l' := [_, _, _, _, _, _, _, _, _]) d_Co_passSized_25 rfl (ltb rfl) ?_
    refine V.iconst (x := 0) d_Co_passSized_27 (by decide) ?_
    refine V.istore (l' := [_, _, _, _, _, _, _, _, _]) d_Co_passSized_28 rfl (ltb rfl) ?_
    exact hq
theorem w_Co_passSized_30 {d : Nat} {K : Int32 → Hp → Prop} {x0 : Nat} {x1 : Nat} {x2 : Int32} {y3 : Option Value} {y4 : Option Value} {x5 : Int32} {x6 : Int64} {x8 : Int32} {h0 : Hp} (hq :
  (if x8 < (1000 : Int32) then (if x5 = 0 then (((hS h0 x0).1 = 5 ∨ (hS h0 x0).1 = 6) ∧ Ca d m_Co_bytesPassed [.ref x0] h0 (QI (fun v15 h16 => (if (v15.toInt64) < x6 then ((hS h16 x1).1 = 2 ∧ (((hS h16 x0).1 = 5 ∨ (hS h16 x0).1 = 6) ∧ Ca d m_Co_passType [.ref x0, .ref (hR h16 x1 9), .int (x2 + (1 : Int32))] h16 (QI (fun v20 h21 => (∀ v23 : Int32, v23 = (x8 + 1) → Wp (d + 1) m_Co_passSized 30 [some (.ref x0), some (.ref x1), some (.int x2), y3, (yk y4), some (.int v20), some (.long x6), none, some (.int v23)] [] h21 (QI K)))))) else Wp (d + 1) m_Co_passSized 73 [some (.ref x0), some (.ref x1), some (.int x2), y3, y4, some (.int x5), some (.long x6), none, some (.int x8)] [] h16 (QI K))))) else Wp (d + 1) m_Co_passSized 73 [some (.ref x0), some (.ref x1), some (.int x2), y3, y4, some (.int x5), some (.long x6), none, some (.int x8)] [] h0 (QI K)) else Wp (d + 1) m_Co_passSized 73 [some (.ref x0), some (.ref x1), some (.int x2), y3, y4, some (.int x5), some (.long x6), none, some (.int x8)] [] h0 (QI K))) : Wp (d + 1) m_Co_passSized 30 [some (.ref x0), some (.ref x1), some (.int x2), y3, y4, some (.int x5), some (.long x6), none, some (.int x8)] [] h0 (QI K) := by
  refine V.iload d_Co_passSized_30 rfl ?_
  refine V.sipush (x := 1000) d_Co_passSized_32 (by decide) ?_
  refine V.ic_ge (t := 73) d_Co_passSized_35 ⟨rfl, rfl⟩ (fun hc => ?_) (fun hc => ?_)
  · replace hq := ifp hc hq
    refine V.iload d_Co_passSized_38 rfl ?_
    refine V.if_ne (t := 73) d_Co_passSized_40 ⟨rfl, rfl⟩ (fun hc => ?_) (fun hc => ?_)
    · replace hq := ifp hc hq
      refine V.aload_n d_Co_passSized_43 rfl ?_
      obtain ⟨g14, hq⟩ := hq
      refine V.callI d_Co_passSized_44 (cV_call (t := []) (rs := []) rfl (Or.inr rfl) rfl (lk2 g14) ⟨leb rfl, leb rfl⟩) hq (fun v15 h16 hq => ?_)
      refine V.i2l d_Co_passSized_47 ?_
      refine V.lload d_Co_passSized_48 rfl ?_
      refine V.lc_ge d_Co_passSized_50 d_Co_passSized_51 ⟨rfl, rfl⟩ (fun hc => ?_) (fun hc => ?_)
      · replace hq := ifp hc hq
        refine V.aload_n d_Co_passSized_54 rfl ?_
        refine V.aload_n d_Co_passSized_55 rfl ?_
        obtain ⟨g18, hq⟩ := hq
        refine V.get2 d_Co_passSized_56 rfl (List.mem_singleton.mpr g18) ?_
        refine V.iload_n d_Co_passSized_59 rfl ?_
        refine V.iconst (x := 1) d_Co_passSized_60 (by decide) ?_
        refine V.iadd d_Co_passSized_61 ?_
        obtain ⟨g19, hq⟩ := hq
        refine V.callI d_Co_passSized_62 (cV_call (t := [_, _]) (rs := []) rfl (Or.inr rfl) rfl (lk2 g19) ⟨leb rfl, leb rfl⟩) hq (fun v20 h21 hq => ?_)
        refine V.istore (l' := [_, _, _, _, _, _, _, _, _]) d_Co_passSized_65 ((st1_alt (ltb rfl)).trans rfl) (ltb rfl) ?_
        replace hq := hq _ rfl
        refine V.iinc (l' := [_, _, _, _, _, _, _, _, _]) d_Co_passSized_67 rfl (show _ + _ = _ + (1 : Int32) from rfl) rfl ?_
        refine V.goto (t := 30) d_Co_passSized_70 ⟨rfl, rfl⟩ ?_
        exact hq
      · replace hq := ifn hc hq
        exact hq
    · replace hq := ifn hc hq
      exact hq
  · replace hq := ifn hc hq
    exact hq
theorem w_Co_passSized_73 {d : Nat} {K : Int32 → Hp → Prop} {x0 : Nat} {y1 : Option Value} {y2 : Option Value} {y3 : Option Value} {y4 : Option Value} {x5 : Int32} {x6 : Int64} {y8 : Option Value} {h0 : Hp} (hq :
  (if x5 = 0 then (((hS h0 x0).1 = 5 ∨ (hS h0 x0).1 = 6) ∧ Ca d m_Co_bytesPassed [.ref x0] h0 (QI (fun v25 h26 => (if x6 < (v25.toInt64) then K (2 : Int32) h26 else K x5 h26)))) else K x5 h0)) : Wp (d + 1) m_Co_passSized 73 [some (.ref x0), y1, y2, y3, y4, some (.int x5), some (.long x6), none, y8] [] h0 (QI K) := by
  refine V.iload d_Co_passSized_73 rfl ?_
  refine V.if_ne (t := 93) d_Co_passSized_75 ⟨rfl, rfl⟩ (fun hc => ?_) (fun hc => ?_)
  · replace hq := ifp hc hq
    refine V.aload_n d_Co_passSized_78 rfl ?_
    obtain ⟨g24, hq⟩ := hq
    refine V.callI d_Co_passSized_79 (cV_call (t := []) (rs := []) rfl (Or.inr rfl) rfl (lk2 g24) ⟨leb rfl, leb rfl⟩) hq (fun v25 h26 hq => ?_)
    refine V.i2l d_Co_passSized_82 ?_
    refine V.lload d_Co_passSized_83 rfl ?_
    refine V.lc_le d_Co_passSized_85 d_Co_passSized_86 ⟨rfl, rfl⟩ (fun hc => ?_) (fun hc => ?_)
    · replace hq := ifp hc hq
      refine V.iconst (x := 2) d_Co_passSized_89 (by decide) ?_
      refine V.goto (t := 95) d_Co_passSized_90 ⟨rfl, rfl⟩ ?_
      refine V.iret d_Co_passSized_95 rfl ?_
      exact V.rI hq
    · replace hq := ifn hc hq
      refine V.iload d_Co_passSized_93 rfl ?_
      refine V.iret d_Co_passSized_95 rfl ?_
      exact V.rI hq
  · replace hq := ifn hc hq
    refine V.iload d_Co_passSized_93 rfl ?_
    refine V.iret d_Co_passSized_95 rfl ?_
    exact V.rI hq
theorem w_Co_passChoice {d : Nat} {K : Int32 → Hp → Prop} {x0 : Nat} {x1 : Nat} {x2 : Int32} {h0 : Hp} (hq :
  Ca d m_Co_told [.ref x1] h0 (QL (fun v1 h2 => ((hS h2 x1).1 = 2 ∧ (∀ v5 : Nat, v5 = (hR h2 x1 9) → Wp (d + 1) m_Co_passChoice 11 [some (.ref x0), some (.ref x1), some (.int x2), some (.long v1), none, some (.ref v5)] [] h2 (QI K)))))) : Ca (d + 1) m_Co_passChoice [.ref x0, .ref x1, .int x2] h0 (QI K) := by
  show Wp _ _ 0 [some (.ref x0), some (.ref x1), some (.int x2), none, none, none] [] h0 _
  refine V.aload_n d_Co_passChoice_0 rfl ?_
  refine V.callL d_Co_passChoice_1 (cS_call (as := [_]) (rs := []) rfl rfl ⟨leb rfl, leb rfl⟩) hq (fun v1 h2 hq => ?_)
  refine V.lstore_n (l' := [_, _, _, _, _, _]) d_Co_passChoice_4 rfl (ltb rfl) ?_
  refine V.aload_n d_Co_passChoice_5 rfl ?_
  obtain ⟨g4, hq⟩ := hq
  refine V.get2 d_Co_passChoice_6 rfl (List.mem_singleton.mpr g4) ?_
  replace hq := hq _ rfl
  refine V.astore (l' := [_, _, _, _, _, _]) d_Co_passChoice_9 rfl (ltb rfl) ?_
  exact hq
theorem w_Co_passChoice_11 {d : Nat} {K : Int32 → Hp → Prop} {x0 : Nat} {y1 : Option Value} {x2 : Int32} {x3 : Int64} {x5 : Nat} {h0 : Hp} (hq :
  (if x5 = 0 then K (2 : Int32) h0 else ((hS h0 x5).1 = 2 ∧ (if ((hI h0 x5 3).toInt64) = x3 then (((hS h0 x0).1 = 5 ∨ (hS h0 x0).1 = 6) ∧ Ca d m_Co_passType [.ref x0, .ref x5, .int (x2 + (1 : Int32))] h0 (QI (fun v8 h9 => K v8 h9))) else (∀ v11 : Nat, v11 = (hR h0 x5 8) → Wp (d + 1) m_Co_passChoice 11 [some (.ref x0), y1, some (.int x2), some (.long x3), none, some (.ref v11)] [] h0 (QI K)))))) : Wp (d + 1) m_Co_passChoice 11 [some (.ref x0), y1, some (.int x2), some (.long x3), none, some (.ref x5)] [] h0 (QI K) := by
  refine V.aload d_Co_passChoice_11 rfl ?_
  refine V.ifnull (t := 47) d_Co_passChoice_13 ⟨rfl, rfl⟩ (fun hc => ?_) (fun hc => ?_)
  · replace hq := ifp hc hq
    refine V.iconst (x := 2) d_Co_passChoice_47 (by decide) ?_
    refine V.iret d_Co_passChoice_48 rfl ?_
    exact V.rI hq
  · replace hq := ifn hc hq
    refine V.aload d_Co_passChoice_16 rfl ?_
    obtain ⟨g6, hq⟩ := hq
    refine V.get0 d_Co_passChoice_18 rfl (List.mem_singleton.mpr g6) ?_
    refine V.i2l d_Co_passChoice_21 ?_
    refine V.lload_n d_Co_passChoice_22 rfl ?_
    refine V.lc_ne d_Co_passChoice_23 d_Co_passChoice_24 ⟨rfl, rfl⟩ (fun hc => ?_) (fun hc => ?_)
    · replace hq := ifp hc hq
      refine V.aload_n d_Co_passChoice_27 rfl ?_
      refine V.aload d_Co_passChoice_28 rfl ?_
      refine V.iload_n d_Co_passChoice_30 rfl ?_
      refine V.iconst (x := 1) d_Co_passChoice_31 (by decide) ?_
      refine V.iadd d_Co_passChoice_32 ?_
      obtain ⟨g7, hq⟩ := hq
      refine V.callI d_Co_passChoice_33 (cV_call (t := [_, _]) (rs := []) rfl (Or.inr rfl) rfl (lk2 g7) ⟨leb rfl, leb rfl⟩) hq (fun v8 h9 hq => ?_)
      refine V.iret d_Co_passChoice_36 rfl ?_
      exact V.rI hq
    · replace hq := ifn hc hq
      refine V.aload d_Co_passChoice_37 rfl ?_
      refine V.get2 d_Co_passChoice_39 rfl (List.mem_singleton.mpr g6) ?_
      replace hq := hq _ rfl
      refine V.astore (l' := [_, _, _, _, _, _]) d_Co_passChoice_42 rfl (ltb rfl) ?_
      refine V.goto (t := 11) d_Co_passChoice_44 ⟨rfl, rfl⟩ ?_
      exact hq
theorem w_Co_told {d : Nat} {K : Int64 → Hp → Prop} {x0 : Nat} {h0 : Hp} (hq :
  ((hS h0 x0).1 = 2 ∧ (if (hR h0 x0 5) = 0 then K (-1 : Int64) h0 else ((hS h0 (hR h0 x0 5)).1 = 2 ∧ K (hL h0 (hR h0 x0 5) 15) h0)))) : Ca d m_Co_told [.ref x0] h0 (QL K) := by
  show Wp _ _ 0 [some (.ref x0)] [] h0 _
  refine V.aload_n d_Co_told_0 rfl ?_
  obtain ⟨g1, hq⟩ := hq
  refine V.get2 d_Co_told_1 rfl (List.mem_singleton.mpr g1) ?_
  refine V.ifnonnull (t := 13) d_Co_told_4 ⟨rfl, rfl⟩ (fun hc => ?_) (fun hc => ?_)
  · replace hq := ifp hc hq
    refine V.ldc2_w d_Co_told_7 rfl ?_
    refine V.goto (t := 20) d_Co_told_10 ⟨rfl, rfl⟩ ?_
    refine V.lret d_Co_told_20 rfl ?_
    exact V.rL hq
  · replace hq := ifn hc hq
    refine V.aload_n d_Co_told_13 rfl ?_
    refine V.get2 d_Co_told_14 rfl (List.mem_singleton.mpr g1) ?_
    obtain ⟨g2, hq⟩ := hq
    refine V.get1 d_Co_told_17 rfl (List.mem_singleton.mpr g2) ?_
    refine V.lret d_Co_told_20 rfl ?_
    exact V.rL hq
theorem w_Re_init {d : Nat} {K : Hp → Prop} {x0 : Nat} {x1 : Nat} {x2 : Nat} {h0 : Hp} (hq :
  (((hS h0 x0).1 = 5 ∨ (hS h0 x0).1 = 6) ∧ Ca d m_Co_init [.ref x0] h0 (QV (fun h2 => ((hS h2 x0).1 = 5 ∧ (∀ h5 : Hp, h5 = sR h2 x0 3 x1 → (∀ h6 : Hp, h6 = sR h5 x0 4 x2 → K h6))))))) : Ca (d + 1) m_Re_init [.ref x0, .ref x1, .ref x2] h0 (QV K) := by
  show Wp _ _ 0 [some (.ref x0), some (.ref x1), some (.ref x2)] [] h0 _
  refine V.aload_n d_Re_init_0 rfl ?_
  obtain ⟨g1, hq⟩ := hq
  refine V.callV d_Re_init_1 (cI_call (t := []) (rs := []) rfl rfl (lk2 g1) ⟨leb rfl, leb rfl⟩) hq (fun h2 hq => ?_)
  refine V.aload_n d_Re_init_4 rfl ?_
  refine V.aload_n d_Re_init_5 rfl ?_
  obtain ⟨g4, hq⟩ := hq
  refine V.put2 d_Re_init_6 rfl (Or.inr rfl) (List.mem_singleton.mpr g4) ?_
  replace hq := hq _ rfl
  refine V.aload_n d_Re_init_9 rfl ?_
  refine V.aload_n d_Re_init_10 rfl ?_
  refine V.put2 d_Re_init_11 rfl (Or.inr rfl) (List.mem_singleton.mpr g4) ?_
  replace hq := hq _ rfl
  refine V.vret d_Re_init_14 rfl ?_
  exact V.rV hq
theorem w_Re_passNumber {d : Nat} {K : Int32 → Hp → Prop} {x0 : Nat} {x1 : Nat} {h0 : Hp} (hq :
  ((hS h0 x0).1 = 5 ∧ Ca d m_Co_bytesPassed [.ref x0] h0 (QI (fun v2 h3 => ((hS h3 x1).1 = 2 ∧ ((hS h3 x0).1 = 5 ∧ ((hS h3 (hR h3 x0 3)).1 = 0 ∧ (if ((hI h3 (hR h3 x0 3) 1) - v2) < (hI h3 x1 1) then K (1 : Int32) h3 else Wp (d + 1) m_Re_passNumber 28 [some (.ref x0), some (.ref x1), some (.int v2), some (.long (0 : Int64)), none, some (.int (0 : Int32)), none] [] h3 (QI K))))))))) : Ca (d + 1) m_Re_passNumber [.ref x0, .ref x1] h0 (QI K) := by
  show Wp _ _ 0 [some (.ref x0), some (.ref x1), none, none, none, none, none] [] h0 _
  refine V.aload_n d_Re_passNumber_0 rfl ?_
  obtain ⟨g1, hq⟩ := hq
  refine V.callI d_Re_passNumber_1 (cV_call (t := []) (rs := []) rfl (Or.inr rfl) rfl (lk1 g1) ⟨leb rfl, leb rfl⟩) hq (fun v2 h3 hq => ?_)
  refine V.istore_n (l' := [_, _, _, _, _, _, _]) d_Re_passNumber_4 rfl (ltb rfl) ?_
  refine V.aload_n d_Re_passNumber_5 rfl ?_
  obtain ⟨g5, hq⟩ := hq
  refine V.get0 d_Re_passNumber_6 rfl (List.mem_singleton.mpr g5) ?_
  refine V.aload_n d_Re_passNumber_9 rfl ?_
  obtain ⟨g6, hq⟩ := hq
  refine V.get2 d_Re_passNumber_10 rfl (List.mem_singleton.mpr g6) ?_
  obtain ⟨g7, hq⟩ := hq
  refine V.get0 d_Re_passNumber_13 rfl (List.mem_singleton.mpr g7) ?_
  refine V.iload_n d_Re_passNumber_16 rfl ?_
  refine V.isub d_Re_passNumber_17 ?_
  refine V.ic_le (t := 23) d_Re_passNumber_18 ⟨rfl, rfl⟩ (fun hc => ?_) (fun hc => ?_)
  · replace hq := ifp hc hq
    refine V.iconst (x := 1) d_Re_passNumber_21 (by decide) ?_
    refine V.iret d_Re_passNumber_22 rfl ?_
    exact V.rI hq
  · replace hq := ifn hc hq
    refine V.lconst (x := 0) d_Re_passNumber_23 (by decide) ?_
    refine V.lstore_n (l' := [_, _, _, _, _, _, _]) d_Re_passNumber_24 rfl (ltb rfl) ?_
    refine V.iconst (x := 0) d_Re_passNumber_25 (by decide) ?_
    refine V.istore (l' := [_, _, _, _, _, _, _]) d_Re_passNumber_26 rfl (ltb rfl) ?_
    exact hq
theorem w_Re_passNumber_28 {d : Nat} {K : Int32 → Hp → Prop} {x0 : Nat} {x1 : Nat} {x2 : Int32} {x3 : Int64} {x5 : Int32} {y6 : Option Value} {h0 : Hp} (hq :
  ((hS h0 x1).1 = 2 ∧ (if x5 < (hI h0 x1 1) then (if (hI h0 x1 0) = (118 : Int32) then (∀ v9 : Int32, v9 = (((hI h0 x1 1) - (1 : Int32)) - x5) → ((hS h0 x0).1 = 5 ∧ ((hS h0 (hR h0 x0 3)).1 = 0 ∧ Ca d m_By_at [.ref (hR h0 x0 3), .int (x2 + v9)] h0 (QI (fun v12 h13 => (∀ v15 : Int64, v15 = ((x3 <<< ((8 : Int32).toInt64 &&& 63)) ||| (v12.toInt64)) → (∀ v16 : Int32, v16 = (x5 + 1) → Wp (d + 1) m_Re_passNumber 28 [some (.ref x0), some (.ref x1), some (.int x2), some (.long v15), none, some (.int v16), some (.int v9)] [] h13 (QI K)))))))) else ((hS h0 x0).1 = 5 ∧ ((hS h0 (hR h0 x0 3)).1 = 0 ∧ Ca d m_By_at [.ref (hR h0 x0 3), .int (x2 + x5)] h0 (QI (fun v19 h20 => (∀ v22 : Int64, v22 = ((x3 <<< ((8 : Int32).toInt64 &&& 63)) ||| (v19.toInt64)) → (∀ v23 : Int32, v23 = (x5 + 1) → Wp (d + 1) m_Re_passNumber 28 [some (.ref x0), some (.ref x1), some (.int x2), some (.long v22), none, some (.int v23), some (.int x5)] [] h20 (QI K)))))))) else Ca d m_No_mayBeNegative [.ref x1] h0 (QI (fun v24 h25 => (if v24 = 0 then Wp (d + 1) m_Re_passNumber 113 [some (.ref x0), some (.ref x1), some (.int x2), some (.long x3), none, some (.int x5), y6] [] h25 (QI K) else ((hS h25 x1).1 = 2 ∧ (∀ v28 : Int32, v28 = ((64 : Int32) - ((8 : Int32) * (hI h25 x1 1))) → (∀ v29 : Int64, v29 = ((x3 <<< (v28.toInt64 &&& 63)) >>> (v28.toInt64 &&& 63)) → Wp (d + 1) m_Re_passNumber 113 [some (.ref x0), some (.ref x1), some (.int x2), some (.long v29), none, some (.int v28), y6] [] h25 (QI K)))))))))) : Wp (d + 1) m_Re_passNumber 28 [some (.ref x0), some (.ref x1), some (.int x2), some (.long x3), none, some (.int x5), y6] [] h0 (QI K) := by
  refine V.iload d_Re_passNumber_28 rfl ?_
  refine V.aload_n d_Re_passNumber_30 rfl ?_
  obtain ⟨g8, hq⟩ := hq
  refine V.get0 d_Re_passNumber_31 rfl (List.mem_singleton.mpr g8) ?_
  refine V.ic_ge (t := 86) d_Re_passNumber_34 ⟨rfl, rfl⟩ (fun hc => ?_) (fun hc => ?_)
  · replace hq := ifp hc hq
    refine V.aload_n d_Re_passNumber_37 rfl ?_
    refine V.get0 d_Re_passNumber_38 rfl (List.mem_singleton.mpr g8) ?_
    refine V.bipush (x := 118) d_Re_passNumber_41 (by decide) ?_
    refine V.ic_ne (t := 58) d_Re_passNumber_43 ⟨rfl, rfl⟩ (fun hc => ?_) (fun hc => ?_)
    · replace hq := ifp hc hq
      refine V.aload_n d_Re_passNumber_46 rfl ?_
      refine V.get0 d_Re_passNumber_47 rfl (List.mem_singleton.mpr g8) ?_
      refine V.iconst (x := 1) d_Re_passNumber_50 (by decide) ?_
      refine V.isub d_Re_passNumber_51 ?_
      refine V.iload d_Re_passNumber_52 rfl ?_
      refine V.isub d_Re_passNumber_54 ?_
      refine V.goto (t := 60) d_Re_passNumber_55 ⟨rfl, rfl⟩ ?_
      replace hq := hq _ rfl
      refine V.istore (l' := [_, _, _, _, _, _, _]) d_Re_passNumber_60 rfl (ltb rfl) ?_
      refine V.lload_n d_Re_passNumber_62 rfl ?_
      refine V.bipush (x := 8) d_Re_passNumber_63 (by decide) ?_
      refine V.lshl d_Re_passNumber_65 ?_
      refine V.aload_n d_Re_passNumber_66 rfl ?_
      obtain ⟨g10, hq⟩ := hq
      refine V.get2 d_Re_passNumber_67 rfl (List.mem_singleton.mpr g10) ?_
      refine V.iload_n d_Re_passNumber_70 rfl ?_
      refine V.iload d_Re_passNumber_71 rfl ?_
      refine V.iadd d_Re_passNumber_73 ?_
      obtain ⟨g11, hq⟩ := hq
      refine V.callI d_Re_passNumber_74 (cV_call (t := [_]) (rs := [_]) rfl (Or.inl rfl) rfl (lk1 g11) ⟨leb rfl, leb rfl⟩) hq (fun v12 h13 hq => ?_)
      refine V.i2l d_Re_passNumber_77 ?_
      refine V.lor d_Re_passNumber_78 ?_
      replace hq := hq _ rfl
      refine V.lstore_n (l' := [_, _, _, _, _, _, _]) d_Re_passNumber_79 rfl (ltb rfl) ?_
      replace hq := hq _ rfl
      refine V.iinc (l' := [_, _, _, _, _, _, _]) d_Re_passNumber_80 rfl (show _ + _ = _ + (1 : Int32) from rfl) rfl ?_
      refine V.goto (t := 28) d_Re_passNumber_83 ⟨rfl, rfl⟩ ?_
      exact hq
    · replace hq := ifn hc hq
      refine V.iload d_Re_passNumber_58 rfl ?_
      refine V.istore (l' := [_, _, _, _, _, _, _]) d_Re_passNumber_60 rfl (ltb rfl) ?_
      refine V.lload_n d_Re_passNumber_62 rfl ?_
      refine V.bipush (x := 8) d_Re_passNumber_63 (by decide) ?_
      refine V.lshl d_Re_passNumber_65 ?_
      refine V.aload_n d_Re_passNumber_66 rfl ?_
      obtain ⟨g17, hq⟩ := hq
      refine V.get2 d_Re_passNumber_67 rfl (List.mem_singleton.mpr g17) ?_
      refine V.iload_n d_Re_passNumber_70 rfl ?_
      refine V.iload d_Re_passNumber_71 rfl ?_
      refine V.iadd d_Re_passNumber_73 ?_
      obtain ⟨g18, hq⟩ := hq
      refine V.callI d_Re_passNumber_74 (cV_call (t := [_]) (rs := [_]) rfl (Or.inl rfl) rfl (lk1 g18) ⟨leb rfl, leb rfl⟩) hq (fun v19 h20 hq => ?_)
      refine V.i2l d_Re_passNumber_77 ?_
      refine V.lor d_Re_passNumber_78 ?_
      replace hq := hq _ rfl
      refine V.lstore_n (l' := [_, _, _, _, _, _, _]) d_Re_passNumber_79 rfl (ltb rfl) ?_
      replace hq := hq _ rfl
      refine V.iinc (l' := [_, _, _, _, _, _, _]) d_Re_passNumber_80 rfl (show _ + _ = _ + (1 : Int32) from rfl) rfl ?_
      refine V.goto (t := 28) d_Re_passNumber_83 ⟨rfl, rfl⟩ ?_
      exact hq
  · replace hq := ifn hc hq
    refine V.aload_n d_Re_passNumber_86 rfl ?_
    refine V.callI d_Re_passNumber_87 (cV_call (t := []) (rs := []) rfl (Or.inl rfl) rfl (lk1 g8) ⟨leb rfl, leb rfl⟩) hq (fun v24 h25 hq => ?_)
    refine V.if_eq (t := 113) d_Re_passNumber_90 ⟨rfl, rfl⟩ (fun hc => ?_) (fun hc => ?_)
    · replace hq := ifp hc hq
      exact hq
    · replace hq := ifn hc hq
      refine V.bipush (x := 64) d_Re_passNumber_93 (by decide) ?_
      refine V.bipush (x := 8) d_Re_passNumber_95 (by decide) ?_
      refine V.aload_n d_Re_passNumber_97 rfl ?_
      obtain ⟨g27, hq⟩ := hq
      refine V.get0 d_Re_passNumber_98 rfl (List.mem_singleton.mpr g27) ?_
      refine V.imul d_Re_passNumber_101 ?_
      refine V.isub d_Re_passNumber_102 ?_
      replace hq := hq _ rfl
      refine V.istore (l' := [_, _, _, _, _, _, _]) d_Re_passNumber_103 rfl (ltb rfl) ?_
      refine V.lload_n d_Re_passNumber_105 rfl ?_
      refine V.iload d_Re_passNumber_106 rfl ?_
      refine V.lshl d_Re_passNumber_108 ?_
      refine V.iload d_Re_passNumber_109 rfl ?_
      refine V.lshr d_Re_passNumber_111 ?_
      replace hq := hq _ rfl
      refine V.lstore_n (l' := [_, _, _, _, _, _, _]) d_Re_passNumber_112 rfl (ltb rfl) ?_
      exact hq
theorem w_Re_passNumber_113 {d : Nat} {K : Int32 → Hp → Prop} {x0 : Nat} {x1 : Nat} {y2 : Option Value} {x3 : Int64} {y5 : Option Value} {y6 : Option Value} {h0 : Hp} (hq :
  ((hS h0 x0).1 = 5 ∧ ((hS h0 x1).1 = 2 ∧ (∀ h32 : Hp, h32 = sI h0 x0 0 ((hI h0 x0 0) + ((8 : Int32) * (hI h0 x1 1))) → Ca d m_Re_keep [.ref x0, .ref x1, .long x3] h32 (QI (fun v33 h34 => K v33 h34)))))) : Wp (d + 1) m_Re_passNumber 113 [some (.ref x0), some (.ref x1), y2, some (.long x3), none, y5, y6] [] h0 (QI K) := by
  refine V.aload_n d_Re_passNumber_113 rfl ?_
  refine V.dupR d_Re_passNumber_114 ?_
  obtain ⟨g30, hq⟩ := hq
  refine V.get0 d_Re_passNumber_115 rfl (List.mem_singleton.mpr g30) ?_
  refine V.bipush (x := 8) d_Re_passNumber_118 (by decide) ?_
  refine V.aload_n d_Re_passNumber_120 rfl ?_
  obtain ⟨g31, hq⟩ := hq
  refine V.get0 d_Re_passNumber_121 rfl (List.mem_singleton.mpr g31) ?_
  refine V.imul d_Re_passNumber_124 ?_
  refine V.iadd d_Re_passNumber_125 ?_
  refine V.put0 d_Re_passNumber_126 rfl (Or.inl rfl) (List.mem_singleton.mpr g30) ?_
  replace hq := hq _ rfl
  refine V.aload_n d_Re_passNumber_129 rfl ?_
  refine V.aload_n d_Re_passNumber_130 rfl ?_
  refine V.lload_n d_Re_passNumber_131 rfl ?_
  refine V.callI d_Re_passNumber_132 (cV_call (t := [_, _]) (rs := []) rfl (Or.inl rfl) rfl (lk1 g30) ⟨leb rfl, leb rfl⟩) hq (fun v33 h34 hq => ?_)
  refine V.iret d_Re_passNumber_135 rfl ?_
  exact V.rI hq
theorem w_Re_passBits {d : Nat} {K : Int32 → Hp → Prop} {x0 : Nat} {x1 : Nat} {h0 : Hp} (hq :
  ((hS h0 x1).1 = 2 ∧ ((hS h0 x0).1 = 5 ∧ ((hS h0 (hR h0 x0 3)).1 = 0 ∧ (if (((8 : Int32) * (hI h0 (hR h0 x0 3) 1)) - (hI h0 x0 0)) < (hI h0 x1 1) then K (1 : Int32) h0 else Wp (d + 1) m_Re_passBits 29 [some (.ref x0), some (.ref x1), some (.long (0 : Int64)), none, some (.int (0 : Int32))] [] h0 (QI K)))))) : Ca (d + 1) m_Re_passBits [.ref x0, .ref x1] h0 (QI K) := by
  show Wp _ _ 0 [some (.ref x0), some (.ref x1), none, none, none] [] h0 _
  refine V.aload_n d_Re_passBits_0 rfl ?_
  obtain ⟨g1, hq⟩ := hq
  refine V.get0 d_Re_passBits_1 rfl (List.mem_singleton.mpr g1) ?_
  refine V.bipush (x := 8) d_Re_passBits_4 (by decide) ?_
  refine V.aload_n d_Re_passBits_6 rfl ?_
  obtain ⟨g2, hq⟩ := hq
  refine V.get2 d_Re_passBits_7 rfl (List.mem_singleton.mpr g2) ?_
  obtain ⟨g3, hq⟩ := hq
  refine V.get0 d_Re_passBits_10 rfl (List.mem_singleton.mpr g3) ?_
  refine V.imul d_Re_passBits_13 ?_
  refine V.aload_n d_Re_passBits_14 rfl ?_
  refine V.get0 d_Re_passBits_15 rfl (List.mem_singleton.mpr g2) ?_
  refine V.isub d_Re_passBits_18 ?_
  refine V.ic_le (t := 24) d_Re_passBits_19 ⟨rfl, rfl⟩ (fun hc => ?_) (fun hc => ?_)
  · replace hq := ifp hc hq
    refine V.iconst (x := 1) d_Re_passBits_22 (by decide) ?_
    refine V.iret d_Re_passBits_23 rfl ?_
    exact V.rI hq
  · replace hq := ifn hc hq
    refine V.lconst (x := 0) d_Re_passBits_24 (by decide) ?_
    refine V.lstore_n (l' := [_, _, _, _, _]) d_Re_passBits_25 rfl (ltb rfl) ?_
    refine V.iconst (x := 0) d_Re_passBits_26 (by decide) ?_
    refine V.istore (l' := [_, _, _, _, _]) d_Re_passBits_27 rfl (ltb rfl) ?_
    exact hq
theorem w_Re_passBits_29 {d : Nat} {K : Int32 → Hp → Prop} {x0 : Nat} {x1 : Nat} {x2 : Int64} {x4 : Int32} {h0 : Hp} (hq :
  ((hS h0 x1).1 = 2 ∧ (if x4 < (hI h0 x1 1) then ((hS h0 x0).1 = 5 ∧ Ca d m_Re_nextBit [.ref x0] h0 (QI (fun v6 h7 => (∀ v9 : Int64, v9 = ((x2 <<< ((1 : Int32).toInt64 &&& 63)) ||| (v6.toInt64)) → (∀ v10 : Int32, v10 = (x4 + 1) → Wp (d + 1) m_Re_passBits 29 [some (.ref x0), some (.ref x1), some (.long v9), none, some (.int v10)] [] h7 (QI K)))))) else ((hS h0 x0).1 = 5 ∧ Ca d m_Re_keep [.ref x0, .ref x1, .long x2] h0 (QI (fun v12 h13 => K v12 h13)))))) : Wp (d + 1) m_Re_passBits 29 [some (.ref x0), some (.ref x1), some (.long x2), none, some (.int x4)] [] h0 (QI K) := by
  refine V.iload d_Re_passBits_29 rfl ?_
  refine V.aload_n d_Re_passBits_31 rfl ?_
  obtain ⟨g4, hq⟩ := hq
  refine V.get0 d_Re_passBits_32 rfl (List.mem_singleton.mpr g4) ?_
  refine V.ic_ge (t := 54) d_Re_passBits_35 ⟨rfl, rfl⟩ (fun hc => ?_) (fun hc => ?_)
  · replace hq := ifp hc hq
    refine V.lload_n d_Re_passBits_38 rfl ?_
    refine V.iconst (x := 1) d_Re_passBits_39 (by decide) ?_
    refine V.lshl d_Re_passBits_40 ?_
    refine V.aload_n d_Re_passBits_41 rfl ?_
    obtain ⟨g5, hq⟩ := hq
    refine V.callI d_Re_passBits_42 (cV_call (t := []) (rs := [_]) rfl (Or.inl rfl) rfl (lk1 g5) ⟨leb rfl, leb rfl⟩) hq (fun v6 h7 hq => ?_)
    refine V.i2l d_Re_passBits_45 ?_
    refine V.lor d_Re_passBits_46 ?_
    replace hq := hq _ rfl
    refine V.lstore_n (l' := [_, _, _, _, _]) d_Re_passBits_47 rfl (ltb rfl) ?_
    replace hq := hq _ rfl
    refine V.iinc (l' := [_, _, _, _, _]) d_Re_passBits_48 rfl (show _ + _ = _ + (1 : Int32) from rfl) rfl ?_
    refine V.goto (t := 29) d_Re_passBits_51 ⟨rfl, rfl⟩ ?_
    exact hq
  · replace hq := ifn hc hq
    refine V.aload_n d_Re_passBits_54 rfl ?_
    refine V.aload_n d_Re_passBits_55 rfl ?_
    refine V.lload_n d_Re_passBits_56 rfl ?_
    obtain ⟨g11, hq⟩ := hq
    refine V.callI d_Re_passBits_57 (cV_call (t := [_, _]) (rs := []) rfl (Or.inl rfl) rfl (lk1 g11) ⟨leb rfl, leb rfl⟩) hq (fun v12 h13 hq => ?_)
    refine V.iret d_Re_passBits_60 rfl ?_
    exact V.rI hq
theorem w_Re_passWords {d : Nat} {K : Int32 → Hp → Prop} {x0 : Nat} {h0 : Hp} (hq :
  ((hS h0 x0).1 = 5 ∧ Ca d m_Co_bytesPassed [.ref x0] h0 (QI (fun v2 h3 => ((hS h3 x0).1 = 5 ∧ ((hS h3 (hR h3 x0 3)).1 = 0 ∧ (∀ v7 : Int32, v7 = ((hI h3 (hR h3 x0 3) 1) - v2) → Wp (d + 1) m_Re_passWords 17 [some (.ref x0), some (.int v2), some (.int v7), some (.int (0 : Int32))] [] h3 (QI K)))))))) : Ca (d + 1) m_Re_passWords [.ref x0] h0 (QI K) := by
  show Wp _ _ 0 [some (.ref x0), none, none, none] [] h0 _
  refine V.aload_n d_Re_passWords_0 rfl ?_
  obtain ⟨g1, hq⟩ := hq
  refine V.callI d_Re_passWords_1 (cV_call (t := []) (rs := []) rfl (Or.inr rfl) rfl (lk1 g1) ⟨leb rfl, leb rfl⟩) hq (fun v2 h3 hq => ?_)
  refine V.istore_n (l' := [_, _, _, _]) d_Re_passWords_4 rfl (ltb rfl) ?_
  refine V.aload_n d_Re_passWords_5 rfl ?_
  obtain ⟨g5, hq⟩ := hq
  refine V.get2 d_Re_passWords_6 rfl (List.mem_singleton.mpr g5) ?_
  obtain ⟨g6, hq⟩ := hq
  refine V.get0 d_Re_passWords_9 rfl (List.mem_singleton.mpr g6) ?_
  refine V.iload_n d_Re_passWords_12 rfl ?_
  refine V.isub d_Re_passWords_13 ?_
  replace hq := hq _ rfl
  refine V.istore_n (l' := [_, _, _, _]) d_Re_passWords_14 rfl (ltb rfl) ?_
  refine V.iconst (x := 0) d_Re_passWords_15 (by decide) ?_
  refine V.istore_n (l' := [_, _, _, _]) d_Re_passWords_16 rfl (ltb rfl) ?_
  exact hq
theorem w_Re_passWords_17 {d : Nat} {K : Int32 → Hp → Prop} {x0 : Nat} {x1 : Int32} {x2 : Int32} {x3 : Int32} {h0 : Hp} (hq :
  (if x3 < x2 then (if (20 : Int32) < x3 then Wp (d + 1) m_Re_passWords 47 [some (.ref x0), some (.int x1), some (.int x2), some (.int x3)] [] h0 (QI K) else ((hS h0 x0).1 = 5 ∧ ((hS h0 (hR h0 x0 3)).1 = 0 ∧ Ca d m_By_at [.ref (hR h0 x0 3), .int (x1 + x3)] h0 (QI (fun v10 h11 => (if v10 = 0 then Wp (d + 1) m_Re_passWords 47 [some (.ref x0), some (.int x1), some (.int x2), some (.int x3)] [] h11 (QI K) else (∀ v13 : Int32, v13 = (x3 + 1) → Wp (d + 1) m_Re_passWords 17 [some (.ref x0), some (.int x1), some (.int x2), some (.int v13)] [] h11 (QI K)))))))) else Wp (d + 1) m_Re_passWords 47 [some (.ref x0), some (.int x1), some (.int x2), some (.int x3)] [] h0 (QI K))) : Wp (d + 1) m_Re_passWords 17 [some (.ref x0), some (.int x1), some (.int x2), some (.int x3)] [] h0 (QI K) := by
  refine V.iload_n d_Re_passWords_17 rfl ?_
  refine V.iload_n d_Re_passWords_18 rfl ?_
  refine V.ic_ge (t := 47) d_Re_passWords_19 ⟨rfl, rfl⟩ (fun hc => ?_) (fun hc => ?_)
  · replace hq := ifp hc hq
    refine V.iload_n d_Re_passWords_22 rfl ?_
    refine V.bipush (x := 20) d_Re_passWords_23 (by decide) ?_
    refine V.ic_gt (t := 47) d_Re_passWords_25 ⟨rfl, rfl⟩ (fun hc => ?_) (fun hc => ?_)
    · replace hq := ifp hc hq
      exact hq
    · replace hq := ifn hc hq
      refine V.aload_n d_Re_passWords_28 rfl ?_
      obtain ⟨g8, hq⟩ := hq
      refine V.get2 d_Re_passWords_29 rfl (List.mem_singleton.mpr g8) ?_
      refine V.iload_n d_Re_passWords_32 rfl ?_
      refine V.iload_n d_Re_passWords_33 rfl ?_
      refine V.iadd d_Re_passWords_34 ?_
      obtain ⟨g9, hq⟩ := hq
      refine V.callI d_Re_passWords_35 (cV_call (t := [_]) (rs := []) rfl (Or.inl rfl) rfl (lk1 g9) ⟨leb rfl, leb rfl⟩) hq (fun v10 h11 hq => ?_)
      refine V.if_eq (t := 47) d_Re_passWords_38 ⟨rfl, rfl⟩ (fun hc => ?_) (fun hc => ?_)
      · replace hq := ifp hc hq
        exact hq
      · replace hq := ifn hc hq
        replace hq := hq _ rfl
        refine V.iinc (l' := [_, _, _, _]) d_Re_passWords_41 rfl (show _ + _ = _ + (1 : Int32) from rfl) rfl ?_
        refine V.goto (t := 17) d_Re_passWords_44 ⟨rfl, rfl⟩ ?_
        exact hq
  · replace hq := ifn hc hq
    exact hq
theorem w_Re_passWords_47 {d : Nat} {K : Int32 → Hp → Prop} {x0 : Nat} {x1 : Int32} {x2 : Int32} {x3 : Int32} {h0 : Hp} (hq :
  (if (20 : Int32) < x3 then K (2 : Int32) h0 else (if x3 = x2 then K (1 : Int32) h0 else ((hS h0 x0).1 = 5 ∧ (∀ h15 : Hp, h15 = sI h0 x0 0 ((hI h0 x0 0) + (((8 : Int32) * x3) + (8 : Int32))) → Ca d m_Re_keepBytes [.ref x0, .int x1, .int x3] h15 (QI (fun v16 h17 => K v16 h17))))))) : Wp (d + 1) m_Re_passWords 47 [some (.ref x0), some (.int x1), some (.int x2), some (.int x3)] [] h0 (QI K) := by
  refine V.iload_n d_Re_passWords_47 rfl ?_
  refine V.bipush (x := 20) d_Re_passWords_48 (by decide) ?_
  refine V.ic_le (t := 55) d_Re_passWords_50 ⟨rfl, rfl⟩ (fun hc => ?_) (fun hc => ?_)
  · replace hq := ifp hc hq
    refine V.iconst (x := 2) d_Re_passWords_53 (by decide) ?_
    refine V.iret d_Re_passWords_54 rfl ?_
    exact V.rI hq
  · replace hq := ifn hc hq
    refine V.iload_n d_Re_passWords_55 rfl ?_
    refine V.iload_n d_Re_passWords_56 rfl ?_
    refine V.ic_ne (t := 62) d_Re_passWords_57 ⟨rfl, rfl⟩ (fun hc => ?_) (fun hc => ?_)
    · replace hq := ifp hc hq
      refine V.iconst (x := 1) d_Re_passWords_60 (by decide) ?_
      refine V.iret d_Re_passWords_61 rfl ?_
      exact V.rI hq
    · replace hq := ifn hc hq
      refine V.aload_n d_Re_passWords_62 rfl ?_
      refine V.dupR d_Re_passWords_63 ?_
      obtain ⟨g14, hq⟩ := hq
      refine V.get0 d_Re_passWords_64 rfl (List.mem_singleton.mpr g14) ?_
      refine V.bipush (x := 8) d_Re_passWords_67 (by decide) ?_
      refine V.iload_n d_Re_passWords_69 rfl ?_
      refine V.imul d_Re_passWords_70 ?_
      refine V.bipush (x := 8) d_Re_passWords_71 (by decide) ?_
      refine V.iadd d_Re_passWords_73 ?_
      refine V.iadd d_Re_passWords_74 ?_
      refine V.put0 d_Re_passWords_75 rfl (Or.inl rfl) (List.mem_singleton.mpr g14) ?_
      replace hq := hq _ rfl
      refine V.aload_n d_Re_passWords_78 rfl ?_
      refine V.iload_n d_Re_passWords_79 rfl ?_
      refine V.iload_n d_Re_passWords_80 rfl ?_
      refine V.callI d_Re_passWords_81 (cV_call (t := [_, _]) (rs := []) rfl (Or.inl rfl) rfl (lk1 g14) ⟨leb rfl, leb rfl⟩) hq (fun v16 h17 hq => ?_)
      refine V.iret d_Re_passWords_84 rfl ?_
      exact V.rI hq
theorem w_Re_passRest {d : Nat} {K : Int32 → Hp → Prop} {x0 : Nat} {h0 : Hp} (hq :
  ((hS h0 x0).1 = 5 ∧ Ca d m_Co_bytesPassed [.ref x0] h0 (QI (fun v2 h3 => ((hS h3 x0).1 = 5 ∧ ((hS h3 (hR h3 x0 3)).1 = 0 ∧ (∀ v7 : Int32, v7 = ((hI h3 (hR h3 x0 3) 1) - v2) → (∀ h8 : Hp, h8 = sI h3 x0 0 ((hI h3 x0 0) + ((8 : Int32) * v7)) → Ca d m_Re_keepBytes [.ref x0, .int v2, .int v7] h8 (QI (fun v9 h10 => K v9 h10)))))))))) : Ca (d + 1) m_Re_passRest [.ref x0] h0 (QI K) := by
  show Wp _ _ 0 [some (.ref x0), none, none] [] h0 _
  refine V.aload_n d_Re_passRest_0 rfl ?_
  obtain ⟨g1, hq⟩ := hq
  refine V.callI d_Re_passRest_1 (cV_call (t := []) (rs := []) rfl (Or.inr rfl) rfl (lk1 g1) ⟨leb rfl, leb rfl⟩) hq (fun v2 h3 hq => ?_)
  refine V.istore_n (l' := [_, _, _]) d_Re_passRest_4 rfl (ltb rfl) ?_
  refine V.aload_n d_Re_passRest_5 rfl ?_
  obtain ⟨g5, hq⟩ := hq
  refine V.get2 d_Re_passRest_6 rfl (List.mem_singleton.mpr g5) ?_
  obtain ⟨g6, hq⟩ := hq
  refine V.get0 d_Re_passRest_9 rfl (List.mem_singleton.mpr g6) ?_
  refine V.iload_n d_Re_passRest_12 rfl ?_
  refine V.isub d_Re_passRest_13 ?_
  replace hq := hq _ rfl
  refine V.istore_n (l' := [_, _, _]) d_Re_passRest_14 rfl (ltb rfl) ?_
  refine V.aload_n d_Re_passRest_15 rfl ?_
  refine V.dupR d_Re_passRest_16 ?_
  refine V.get0 d_Re_passRest_17 rfl (List.mem_singleton.mpr g5) ?_
  refine V.bipush (x := 8) d_Re_passRest_20 (by decide) ?_
  refine V.iload_n d_Re_passRest_22 rfl ?_
  refine V.imul d_Re_passRest_23 ?_
  refine V.iadd d_Re_passRest_24 ?_
  refine V.put0 d_Re_passRest_25 rfl (Or.inl rfl) (List.mem_singleton.mpr g5) ?_
  replace hq := hq _ rfl
  refine V.aload_n d_Re_passRest_28 rfl ?_
  refine V.iload_n d_Re_passRest_29 rfl ?_
  refine V.iload_n d_Re_passRest_30 rfl ?_
  refine V.callI d_Re_passRest_31 (cV_call (t := [_, _]) (rs := []) rfl (Or.inl rfl) rfl (lk1 g5) ⟨leb rfl, leb rfl⟩) hq (fun v9 h10 hq => ?_)
  refine V.iret d_Re_passRest_34 rfl ?_
  exact V.rI hq
theorem w_Re_passSpare {d : Nat} {K : Int32 → Hp → Prop} {x0 : Nat} {h0 : Hp} (hq :
  Wp (d + 1) m_Re_passSpare 2 [some (.ref x0), some (.int (0 : Int32))] [] h0 (QI K)) : Ca (d + 1) m_Re_passSpare [.ref x0] h0 (QI K) := by
  show Wp _ _ 0 [some (.ref x0), none] [] h0 _
  refine V.iconst (x := 0) d_Re_passSpare_0 (by decide) ?_
  refine V.istore_n (l' := [_, _]) d_Re_passSpare_1 rfl (ltb rfl) ?_
  exact hq
theorem w_Re_passSpare_2 {d : Nat} {K : Int32 → Hp → Prop} {x0 : Nat} {x1 : Int32} {h0 : Hp} (hq :
  (if x1 < (7 : Int32) then ((hS h0 x0).1 = 5 ∧ (if ((hI h0 x0 0) - (hI h0 x0 0) / (8 : Int32) * (8 : Int32)) = 0 then K (0 : Int32) h0 else Ca d m_Re_nextBit [.ref x0] h0 (QI (fun v2 h3 => (if v2 = 0 then (∀ v5 : Int32, v5 = (x1 + 1) → Wp (d + 1) m_Re_passSpare 2 [some (.ref x0), some (.int v5)] [] h3 (QI K)) else K (2 : Int32) h3))))) else K (0 : Int32) h0)) : Wp (d + 1) m_Re_passSpare 2 [some (.ref x0), some (.int x1)] [] h0 (QI K) := by
  refine V.iload_n d_Re_passSpare_2 rfl ?_
  refine V.bipush (x := 7) d_Re_passSpare_3 (by decide) ?_
  refine V.ic_ge (t := 33) d_Re_passSpare_5 ⟨rfl, rfl⟩ (fun hc => ?_) (fun hc => ?_)
  · replace hq := ifp hc hq
    refine V.aload_n d_Re_passSpare_8 rfl ?_
    obtain ⟨g1, hq⟩ := hq
    refine V.get0 d_Re_passSpare_9 rfl (List.mem_singleton.mpr g1) ?_
    refine V.bipush (x := 8) d_Re_passSpare_12 (by decide) ?_
    refine V.irem d_Re_passSpare_14 (by decide) ?_
    refine V.if_eq (t := 33) d_Re_passSpare_15 ⟨rfl, rfl⟩ (fun hc => ?_) (fun hc => ?_)
    · replace hq := ifp hc hq
      refine V.iconst (x := 0) d_Re_passSpare_33 (by decide) ?_
      refine V.iret d_Re_passSpare_34 rfl ?_
      exact V.rI hq
    · replace hq := ifn hc hq
      refine V.aload_n d_Re_passSpare_18 rfl ?_
      refine V.callI d_Re_passSpare_19 (cV_call (t := []) (rs := []) rfl (Or.inl rfl) rfl (lk1 g1) ⟨leb rfl, leb rfl⟩) hq (fun v2 h3 hq => ?_)
      refine V.if_eq (t := 27) d_Re_passSpare_22 ⟨rfl, rfl⟩ (fun hc => ?_) (fun hc => ?_)
      · replace hq := ifp hc hq
        replace hq := hq _ rfl
        refine V.iinc (l' := [_, _]) d_Re_passSpare_27 rfl (show _ + _ = _ + (1 : Int32) from rfl) rfl ?_
        refine V.goto (t := 2) d_Re_passSpare_30 ⟨rfl, rfl⟩ ?_
        exact hq
      · replace hq := ifn hc hq
        refine V.iconst (x := 2) d_Re_passSpare_25 (by decide) ?_
        refine V.iret d_Re_passSpare_26 rfl ?_
        exact V.rI hq
  · replace hq := ifn hc hq
    refine V.iconst (x := 0) d_Re_passSpare_33 (by decide) ?_
    refine V.iret d_Re_passSpare_34 rfl ?_
    exact V.rI hq
theorem w_Re_nextBit {d : Nat} {K : Int32 → Hp → Prop} {x0 : Nat} {h0 : Hp} (hq :
  ((hS h0 x0).1 = 5 ∧ ((hS h0 (hR h0 x0 3)).1 = 0 ∧ Ca d m_By_at [.ref (hR h0 x0 3), .int ((hI h0 x0 0) / (8 : Int32))] h0 (QI (fun v3 h4 => ((hS h4 x0).1 = 5 ∧ (∀ v7 : Int32, v7 = ((v3 >>> (((7 : Int32) - ((hI h4 x0 0) - (hI h4 x0 0) / (8 : Int32) * (8 : Int32))) &&& 31)) &&& (1 : Int32)) → (∀ h8 : Hp, h8 = sI h4 x0 0 ((hI h4 x0 0) + (1 : Int32)) → K v7 h8)))))))) : Ca (d + 1) m_Re_nextBit [.ref x0] h0 (QI K) := by
  show Wp _ _ 0 [some (.ref x0), none] [] h0 _
  refine V.aload_n d_Re_nextBit_0 rfl ?_
  obtain ⟨g1, hq⟩ := hq
  refine V.get2 d_Re_nextBit_1 rfl (List.mem_singleton.mpr g1) ?_
  refine V.aload_n d_Re_nextBit_4 rfl ?_
  refine V.get0 d_Re_nextBit_5 rfl (List.mem_singleton.mpr g1) ?_
  refine V.bipush (x := 8) d_Re_nextBit_8 (by decide) ?_
  refine V.idiv d_Re_nextBit_10 (by decide) ?_
  obtain ⟨g2, hq⟩ := hq
  refine V.callI d_Re_nextBit_11 (cV_call (t := [_]) (rs := []) rfl (Or.inl rfl) rfl (lk1 g2) ⟨leb rfl, leb rfl⟩) hq (fun v3 h4 hq => ?_)
  refine V.bipush (x := 7) d_Re_nextBit_14 (by decide) ?_
  refine V.aload_n d_Re_nextBit_16 rfl ?_
  obtain ⟨g6, hq⟩ := hq
  refine V.get0 d_Re_nextBit_17 rfl (List.mem_singleton.mpr g6) ?_
  refine V.bipush (x := 8) d_Re_nextBit_20 (by decide) ?_
  refine V.irem d_Re_nextBit_22 (by decide) ?_
  refine V.isub d_Re_nextBit_23 ?_
  refine V.ishr d_Re_nextBit_24 ?_
  refine V.iconst (x := 1) d_Re_nextBit_25 (by decide) ?_
  refine V.iand d_Re_nextBit_26 ?_
  replace hq := hq _ rfl
  refine V.istore_n (l' := [_, _]) d_Re_nextBit_27 rfl (ltb rfl) ?_
  refine V.aload_n d_Re_nextBit_28 rfl ?_
  refine V.dupR d_Re_nextBit_29 ?_
  refine V.get0 d_Re_nextBit_30 rfl (List.mem_singleton.mpr g6) ?_
  refine V.iconst (x := 1) d_Re_nextBit_33 (by decide) ?_
  refine V.iadd d_Re_nextBit_34 ?_
  refine V.put0 d_Re_nextBit_35 rfl (Or.inl rfl) (List.mem_singleton.mpr g6) ?_
  replace hq := hq _ rfl
  refine V.iload_n d_Re_nextBit_38 rfl ?_
  refine V.iret d_Re_nextBit_39 rfl ?_
  exact V.rI hq
theorem w_Re_keep {d : Nat} {K : Int32 → Hp → Prop} {x0 : Nat} {x1 : Nat} {x2 : Int64} {h0 : Hp} (hq :
  ((hS h0 x1).1 = 2 ∧ Ca d m_No_holds [.ref x1, .long x2] h0 (QI (fun v2 h3 => (if v2 = 0 then K (2 : Int32) h3 else ((hS h3 x0).1 = 5 ∧ ((hS h3 (hR h3 x0 4)).1 = 1 ∧ Ca d m_Lo_append [.ref (hR h3 x0 4), .long x2] h3 (QI (fun v7 h8 => (if v7 = 0 then K (2 : Int32) h8 else ((hS h8 x1).1 = 2 ∧ (∀ h11 : Hp, h11 = sL h8 x1 15 x2 → K (0 : Int32) h11)))))))))))) : Ca (d + 1) m_Re_keep [.ref x0, .ref x1, .long x2] h0 (QI K) := by
  show Wp _ _ 0 [some (.ref x0), some (.ref x1), some (.long x2), none] [] h0 _
  refine V.aload_n d_Re_keep_0 rfl ?_
  refine V.lload_n d_Re_keep_1 rfl ?_
  obtain ⟨g1, hq⟩ := hq
  refine V.callI d_Re_keep_2 (cV_call (t := [_]) (rs := []) rfl (Or.inl rfl) rfl (lk1 g1) ⟨leb rfl, leb rfl⟩) hq (fun v2 h3 hq => ?_)
  refine V.if_eq (t := 19) d_Re_keep_5 ⟨rfl, rfl⟩ (fun hc => ?_) (fun hc => ?_)
  · replace hq := ifp hc hq
    refine V.iconst (x := 2) d_Re_keep_19 (by decide) ?_
    refine V.iret d_Re_keep_20 rfl ?_
    exact V.rI hq
  · replace hq := ifn hc hq
    refine V.aload_n d_Re_keep_8 rfl ?_
    obtain ⟨g5, hq⟩ := hq
    refine V.get2 d_Re_keep_9 rfl (List.mem_singleton.mpr g5) ?_
    refine V.lload_n d_Re_keep_12 rfl ?_
    obtain ⟨g6, hq⟩ := hq
    refine V.callI d_Re_keep_13 (cV_call (t := [_]) (rs := []) rfl (Or.inl rfl) rfl (lk1 g6) ⟨leb rfl, leb rfl⟩) hq (fun v7 h8 hq => ?_)
    refine V.if_ne (t := 21) d_Re_keep_16 ⟨rfl, rfl⟩ (fun hc => ?_) (fun hc => ?_)
    · replace hq := ifp hc hq
      refine V.iconst (x := 2) d_Re_keep_19 (by decide) ?_
      refine V.iret d_Re_keep_20 rfl ?_
      exact V.rI hq
    · replace hq := ifn hc hq
      refine V.aload_n d_Re_keep_21 rfl ?_
      refine V.lload_n d_Re_keep_22 rfl ?_
      obtain ⟨g10, hq⟩ := hq
      refine V.put1 d_Re_keep_23 rfl (Or.inl rfl) (List.mem_singleton.mpr g10) ?_
      replace hq := hq _ rfl
      refine V.iconst (x := 0) d_Re_keep_26 (by decide) ?_
      refine V.iret d_Re_keep_27 rfl ?_
      exact V.rI hq
theorem w_Re_keepBytes {d : Nat} {K : Int32 → Hp → Prop} {x0 : Nat} {x1 : Int32} {x2 : Int32} {h0 : Hp} (hq :
  ((hS h0 x0).1 = 5 ∧ ((hS h0 (hR h0 x0 4)).1 = 1 ∧ Ca d m_Lo_append [.ref (hR h0 x0 4), .long (x2.toInt64)] h0 (QI (fun v3 h4 => Wp (d + 1) m_Re_keepBytes 13 [some (.ref x0), some (.int x1), some (.int x2), some (.int v3), some (.int (0 : Int32))] [] h4 (QI K)))))) : Ca (d + 1) m_Re_keepBytes [.ref x0, .int x1, .int x2] h0 (QI K) := by
  show Wp _ _ 0 [some (.ref x0), some (.int x1), some (.int x2), none, none] [] h0 _
  refine V.aload_n d_Re_keepBytes_0 rfl ?_
  obtain ⟨g1, hq⟩ := hq
  refine V.get2 d_Re_keepBytes_1 rfl (List.mem_singleton.mpr g1) ?_
  refine V.iload_n d_Re_keepBytes_4 rfl ?_
  refine V.i2l d_Re_keepBytes_5 ?_
  obtain ⟨g2, hq⟩ := hq
  refine V.callI d_Re_keepBytes_6 (cV_call (t := [_]) (rs := []) rfl (Or.inl rfl) rfl (lk1 g2) ⟨leb rfl, leb rfl⟩) hq (fun v3 h4 hq => ?_)
  refine V.istore_n (l' := [_, _, _, _, _]) d_Re_keepBytes_9 rfl (ltb rfl) ?_
  refine V.iconst (x := 0) d_Re_keepBytes_10 (by decide) ?_
  refine V.istore (l' := [_, _, _, _, _]) d_Re_keepBytes_11 rfl (ltb rfl) ?_
  exact hq
theorem w_Re_keepBytes_13 {d : Nat} {K : Int32 → Hp → Prop} {x0 : Nat} {x1 : Int32} {x2 : Int32} {x3 : Int32} {x4 : Int32} {h0 : Hp} (hq :
  (if x4 < x2 then (if x3 = 0 then (∀ v6 : Int32, v6 = (x4 + 1) → Wp (d + 1) m_Re_keepBytes 13 [some (.ref x0), some (.int x1), some (.int x2), some (.int (0 : Int32)), some (.int v6)] [] h0 (QI K)) else ((hS h0 x0).1 = 5 ∧ ((hS h0 (hR h0 x0 3)).1 = 0 ∧ Ca d m_By_at [.ref (hR h0 x0 3), .int (x1 + x4)] h0 (QI (fun v9 h10 => ((hS h10 (hR h0 x0 4)).1 = 1 ∧ Ca d m_Lo_append [.ref (hR h0 x0 4), .long (v9.toInt64)] h10 (QI (fun v13 h14 => (if v13 = 0 then (∀ v16 : Int32, v16 = (x4 + 1) → Wp (d + 1) m_Re_keepBytes 13 [some (.ref x0), some (.int x1), some (.int x2), some (.int (0 : Int32)), some (.int v16)] [] h14 (QI K)) else (∀ v17 : Int32, v17 = (x4 + 1) → Wp (d + 1) m_Re_keepBytes 13 [some (.ref x0), some (.int x1), some (.int x2), some (.int (1 : Int32)), some (.int v17)] [] h14 (QI K))))))))))) else (if x3 = 0 then K (2 : Int32) h0 else K (0 : Int32) h0))) : Wp (d + 1) m_Re_keepBytes 13 [some (.ref x0), some (.int x1), some (.int x2), some (.int x3), some (.int x4)] [] h0 (QI K) := by
  refine V.iload d_Re_keepBytes_13 rfl ?_
  refine V.iload_n d_Re_keepBytes_15 rfl ?_
  refine V.ic_ge (t := 57) d_Re_keepBytes_16 ⟨rfl, rfl⟩ (fun hc => ?_) (fun hc => ?_)
  · replace hq := ifp hc hq
    refine V.iload_n d_Re_keepBytes_19 rfl ?_
    refine V.if_eq (t := 49) d_Re_keepBytes_20 ⟨rfl, rfl⟩ (fun hc => ?_) (fun hc => ?_)
    · replace hq := ifp hc hq
      refine V.iconst (x := 0) d_Re_keepBytes_49 (by decide) ?_
      refine V.istore_n (l' := [_, _, _, _, _]) d_Re_keepBytes_50 rfl (ltb rfl) ?_
      replace hq := hq _ rfl
      refine V.iinc (l' := [_, _, _, _, _]) d_Re_keepBytes_51 rfl (show _ + _ = _ + (1 : Int32) from rfl) rfl ?_
      refine V.goto (t := 13) d_Re_keepBytes_54 ⟨rfl, rfl⟩ ?_
      exact hq
    · replace hq := ifn hc hq
      refine V.aload_n d_Re_keepBytes_23 rfl ?_
      obtain ⟨g7, hq⟩ := hq
      refine V.get2 d_Re_keepBytes_24 rfl (List.mem_singleton.mpr g7) ?_
      refine V.aload_n d_Re_keepBytes_27 rfl ?_
      refine V.get2 d_Re_keepBytes_28 rfl (List.mem_singleton.mpr g7) ?_
      refine V.iload_n d_Re_keepBytes_31 rfl ?_
      refine V.iload d_Re_keepBytes_32 rfl ?_
      refine V.iadd d_Re_keepBytes_34 ?_
      obtain ⟨g8, hq⟩ := hq
      refine V.callI d_Re_keepBytes_35 (cV_call (t := [_]) (rs := [_]) rfl (Or.inl rfl) rfl (lk1 g8) ⟨leb rfl, leb rfl⟩) hq (fun v9 h10 hq => ?_)
      refine V.i2l d_Re_keepBytes_38 ?_
      obtain ⟨g12, hq⟩ := hq
      refine V.callI d_Re_keepBytes_39 (cV_call (t := [_]) (rs := []) rfl (Or.inl rfl) rfl (lk1 g12) ⟨leb rfl, leb rfl⟩) hq (fun v13 h14 hq => ?_)
      refine V.if_eq (t := 49) d_Re_keepBytes_42 ⟨rfl, rfl⟩ (fun hc => ?_) (fun hc => ?_)
      · replace hq := ifp hc hq
        refine V.iconst (x := 0) d_Re_keepBytes_49 (by decide) ?_
        refine V.istore_n (l' := [_, _, _, _, _]) d_Re_keepBytes_50 rfl (ltb rfl) ?_
        replace hq := hq _ rfl
        refine V.iinc (l' := [_, _, _, _, _]) d_Re_keepBytes_51 rfl (show _ + _ = _ + (1 : Int32) from rfl) rfl ?_
        refine V.goto (t := 13) d_Re_keepBytes_54 ⟨rfl, rfl⟩ ?_
        exact hq
      · replace hq := ifn hc hq
        refine V.iconst (x := 1) d_Re_keepBytes_45 (by decide) ?_
        refine V.goto (t := 50) d_Re_keepBytes_46 ⟨rfl, rfl⟩ ?_
        refine V.istore_n (l' := [_, _, _, _, _]) d_Re_keepBytes_50 rfl (ltb rfl) ?_
        replace hq := hq _ rfl
        refine V.iinc (l' := [_, _, _, _, _]) d_Re_keepBytes_51 rfl (show _ + _ = _ + (1 : Int32) from rfl) rfl ?_
        refine V.goto (t := 13) d_Re_keepBytes_54 ⟨rfl, rfl⟩ ?_
        exact hq
  · replace hq := ifn hc hq
    refine V.iload_n d_Re_keepBytes_57 rfl ?_
    refine V.if_eq (t := 65) d_Re_keepBytes_58 ⟨rfl, rfl⟩ (fun hc => ?_) (fun hc => ?_)
    · replace hq := ifp hc hq
      refine V.iconst (x := 2) d_Re_keepBytes_65 (by decide) ?_
      refine V.iret d_Re_keepBytes_66 rfl ?_
      exact V.rI hq
    · replace hq := ifn hc hq
      refine V.iconst (x := 0) d_Re_keepBytes_61 (by decide) ?_
      refine V.goto (t := 66) d_Re_keepBytes_62 ⟨rfl, rfl⟩ ?_
      refine V.iret d_Re_keepBytes_66 rfl ?_
      exact V.rI hq
