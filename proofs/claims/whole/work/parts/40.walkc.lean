theorem w_Pa_init {d : Nat} {K : Hp → Prop} {x0 : Nat} {x1 : Nat} {x2 : Nat} {h0 : Hp} (hq :
  (2 ≤ x0 ∧ ((hS h0 x0).1 = 4 ∧ (∀ h3 : Hp, h3 = sR h0 x0 0 x1 → (∀ h4 : Hp, h4 = sR h3 x0 1 x2 → (∀ h5 : Hp, h5 = sI h4 x0 2 (0 : Int32) → K h5)))))) : Ca d m_Pa_init [.ref x0, .ref x1, .ref x2] h0 (QV K) := by
  show Wp _ _ 0 [some (.ref x0), some (.ref x1), some (.ref x2)] [] h0 _
  refine V.aload_n d_Pa_init_0 rfl ?_
  obtain ⟨g1, hq⟩ := hq
  refine V.objInit d_Pa_init_1 rfl g1 (leb rfl) ?_
  refine V.aload_n d_Pa_init_4 rfl ?_
  refine V.aload_n d_Pa_init_5 rfl ?_
  obtain ⟨g2, hq⟩ := hq
  refine V.put2 d_Pa_init_6 rfl (Or.inr rfl) (List.mem_singleton.mpr g2) ?_
  replace hq := hq _ rfl
  refine V.aload_n d_Pa_init_9 rfl ?_
  refine V.aload_n d_Pa_init_10 rfl ?_
  refine V.put2 d_Pa_init_11 rfl (Or.inr rfl) (List.mem_singleton.mpr g2) ?_
  replace hq := hq _ rfl
  refine V.aload_n d_Pa_init_14 rfl ?_
  refine V.iconst (x := 0) d_Pa_init_15 (by decide) ?_
  refine V.put0 d_Pa_init_16 rfl (Or.inl rfl) (List.mem_singleton.mpr g2) ?_
  replace hq := hq _ rfl
  refine V.vret d_Pa_init_19 rfl ?_
  exact V.rV hq
theorem w_Pa_parse {d : Nat} {K : Int32 → Hp → Prop} {x0 : Nat} {h0 : Hp} (hq :
  ((hS h0 x0).1 = 4 ∧ ((hS h0 (hR h0 x0 1)).1 = 3 ∧ Ca d m_Fo_forgetAll [.ref (hR h0 x0 1)] h0 (QV (fun h3 => ((hS h3 x0).1 = 4 ∧ Ca d m_Pa_passType [.ref x0, .ref 0, .int (-1 : Int32), .int (1 : Int32)] h3 (QR (fun v6 h7 => (if v6 = 0 then (if (0 : Int32) = 0 then ((hS h7 x0).1 = 4 ∧ K (hI h7 x0 2) h7) else K (-2 : Int32) h7) else ((hS h7 x0).1 = 4 ∧ ((hS h7 (hR h7 x0 0)).1 = 0 ∧ (if (hI h7 x0 2) = (hI h7 (hR h7 x0 0) 1) then (if (1 : Int32) = 0 then K (hI h7 x0 2) h7 else K (-2 : Int32) h7) else (if (0 : Int32) = 0 then K (hI h7 x0 2) h7 else K (-2 : Int32) h7))))))))))))) : Ca (d + 1) m_Pa_parse [.ref x0] h0 (QI K) := by
  show Wp _ _ 0 [some (.ref x0), none] [] h0 _
  refine V.aload_n d_Pa_parse_0 rfl ?_
  obtain ⟨g1, hq⟩ := hq
  refine V.get2 d_Pa_parse_1 rfl (List.mem_singleton.mpr g1) ?_
  obtain ⟨g2, hq⟩ := hq
  refine V.callV d_Pa_parse_4 (cV_call (t := []) (rs := []) rfl (Or.inl rfl) rfl (lk1 g2) ⟨leb rfl, leb rfl⟩) hq (fun h3 hq => ?_)
  refine V.aload_n d_Pa_parse_7 rfl ?_
  refine V.aconst_null d_Pa_parse_8 ?_
  refine V.iconst (x := -1) d_Pa_parse_9 (by decide) ?_
  refine V.iconst (x := 1) d_Pa_parse_10 (by decide) ?_
  obtain ⟨g5, hq⟩ := hq
  refine V.callR d_Pa_parse_11 (cV_call (t := [_, _, _]) (rs := []) rfl (Or.inl rfl) rfl (lk1 g5) ⟨leb rfl, leb rfl⟩) hq (fun v6 h7 hq => ?_)
  refine V.ifnull (t := 35) d_Pa_parse_14 ⟨rfl, rfl⟩ (fun hc => ?_) (fun hc => ?_)
  · replace hq := ifp hc hq
    refine V.iconst (x := 0) d_Pa_parse_35 (by decide) ?_
    refine V.istore_n (l' := [_, _]) d_Pa_parse_36 rfl (ltb rfl) ?_
    refine V.iload_n d_Pa_parse_37 rfl ?_
    refine V.if_eq (t := 46) d_Pa_parse_38 ⟨rfl, rfl⟩ (fun hc => ?_) (fun hc => ?_)
    · replace hq := ifp hc hq
      refine V.aload_n d_Pa_parse_46 rfl ?_
      obtain ⟨g9, hq⟩ := hq
      refine V.get0 d_Pa_parse_47 rfl (List.mem_singleton.mpr g9) ?_
      refine V.iret d_Pa_parse_50 rfl ?_
      exact V.rI hq
    · replace hq := ifn hc hq
      refine V.bipush (x := -2) d_Pa_parse_41 (by decide) ?_
      refine V.goto (t := 50) d_Pa_parse_43 ⟨rfl, rfl⟩ ?_
      refine V.iret d_Pa_parse_50 rfl ?_
      exact V.rI hq
  · replace hq := ifn hc hq
    refine V.aload_n d_Pa_parse_17 rfl ?_
    obtain ⟨g10, hq⟩ := hq
    refine V.get0 d_Pa_parse_18 rfl (List.mem_singleton.mpr g10) ?_
    refine V.aload_n d_Pa_parse_21 rfl ?_
    refine V.get2 d_Pa_parse_22 rfl (List.mem_singleton.mpr g10) ?_
    obtain ⟨g11, hq⟩ := hq
    refine V.get0 d_Pa_parse_25 rfl (List.mem_singleton.mpr g11) ?_
    refine V.ic_ne (t := 35) d_Pa_parse_28 ⟨rfl, rfl⟩ (fun hc => ?_) (fun hc => ?_)
    · replace hq := ifp hc hq
      refine V.iconst (x := 1) d_Pa_parse_31 (by decide) ?_
      refine V.goto (t := 36) d_Pa_parse_32 ⟨rfl, rfl⟩ ?_
      refine V.istore_n (l' := [_, _]) d_Pa_parse_36 rfl (ltb rfl) ?_
      refine V.iload_n d_Pa_parse_37 rfl ?_
      refine V.if_eq (t := 46) d_Pa_parse_38 ⟨rfl, rfl⟩ (fun hc => ?_) (fun hc => ?_)
      · replace hq := ifp hc hq
        refine V.aload_n d_Pa_parse_46 rfl ?_
        refine V.get0 d_Pa_parse_47 rfl (List.mem_singleton.mpr g10) ?_
        refine V.iret d_Pa_parse_50 rfl ?_
        exact V.rI hq
      · replace hq := ifn hc hq
        refine V.bipush (x := -2) d_Pa_parse_41 (by decide) ?_
        refine V.goto (t := 50) d_Pa_parse_43 ⟨rfl, rfl⟩ ?_
        refine V.iret d_Pa_parse_50 rfl ?_
        exact V.rI hq
    · replace hq := ifn hc hq
      refine V.iconst (x := 0) d_Pa_parse_35 (by decide) ?_
      refine V.istore_n (l' := [_, _]) d_Pa_parse_36 rfl (ltb rfl) ?_
      refine V.iload_n d_Pa_parse_37 rfl ?_
      refine V.if_eq (t := 46) d_Pa_parse_38 ⟨rfl, rfl⟩ (fun hc => ?_) (fun hc => ?_)
      · replace hq := ifp hc hq
        refine V.aload_n d_Pa_parse_46 rfl ?_
        refine V.get0 d_Pa_parse_47 rfl (List.mem_singleton.mpr g10) ?_
        refine V.iret d_Pa_parse_50 rfl ?_
        exact V.rI hq
      · replace hq := ifn hc hq
        refine V.bipush (x := -2) d_Pa_parse_41 (by decide) ?_
        refine V.goto (t := 50) d_Pa_parse_43 ⟨rfl, rfl⟩ ?_
        refine V.iret d_Pa_parse_50 rfl ?_
        exact V.rI hq
theorem w_Pa_passType {d : Nat} {K : Nat → Hp → Prop} {x0 : Nat} {x1 : Nat} {x2 : Int32} {x3 : Int32} {h0 : Hp} (hq :
  ((hS h0 x0).1 = 4 ∧ ((hS h0 (hR h0 x0 0)).1 = 0 ∧ Ca d m_By_at [.ref (hR h0 x0 0), .int (hI h0 x0 2)] h0 (QI (fun v3 h4 => (if (5 : Int32) < x3 then K 0 h4 else Ca d m_Pa_beginsType [.int v3, .int x3] h4 (QI (fun v6 h7 => (if v6 = 0 then K 0 h7 else ((hS h7 x0).1 = 4 ∧ ((hS h7 (hR h7 x0 1)).1 = 3 ∧ Ca d m_Fo_fresh [.ref (hR h7 x0 1), .int v3, .ref x1, .int x2] h7 (QR (fun v11 h12 => (if v11 = 0 then K 0 h12 else ((hS h12 x0).1 = 4 ∧ (∀ h15 : Hp, h15 = sI h12 x0 2 ((hI h12 x0 2) + (1 : Int32)) → Ca d m_Pa_passTail [.ref x0, .ref v11, .int x3] h15 (QI (fun v16 h17 => (if v16 = 0 then K 0 h17 else K v11 h17))))))))))))))))))) : Ca (d + 1) m_Pa_passType [.ref x0, .ref x1, .int x2, .int x3] h0 (QR K) := by
  show Wp _ _ 0 [some (.ref x0), some (.ref x1), some (.int x2), some (.int x3), none, none] [] h0 _
  refine V.aload_n d_Pa_passType_0 rfl ?_
  obtain ⟨g1, hq⟩ := hq
  refine V.get2 d_Pa_passType_1 rfl (List.mem_singleton.mpr g1) ?_
  refine V.aload_n d_Pa_passType_4 rfl ?_
  refine V.get0 d_Pa_passType_5 rfl (List.mem_singleton.mpr g1) ?_
  obtain ⟨g2, hq⟩ := hq
  refine V.callI d_Pa_passType_8 (cV_call (t := [_]) (rs := []) rfl (Or.inl rfl) rfl (lk1 g2) ⟨leb rfl, leb rfl⟩) hq (fun v3 h4 hq => ?_)
  refine V.istore (l' := [_, _, _, _, _, _]) d_Pa_passType_11 rfl (ltb rfl) ?_
  refine V.iload_n d_Pa_passType_13 rfl ?_
  refine V.iconst (x := 5) d_Pa_passType_14 (by decide) ?_
  refine V.ic_gt (t := 27) d_Pa_passType_15 ⟨rfl, rfl⟩ (fun hc => ?_) (fun hc => ?_)
  · replace hq := ifp hc hq
    refine V.aconst_null d_Pa_passType_27 ?_
    refine V.aret d_Pa_passType_28 rfl ?_
    exact V.rR hq
  · replace hq := ifn hc hq
    refine V.iload d_Pa_passType_18 rfl ?_
    refine V.iload_n d_Pa_passType_20 rfl ?_
    refine V.callI d_Pa_passType_21 (cS_call (as := [_, _]) (rs := []) rfl rfl ⟨leb rfl, leb rfl⟩) hq (fun v6 h7 hq => ?_)
    refine V.if_ne (t := 29) d_Pa_passType_24 ⟨rfl, rfl⟩ (fun hc => ?_) (fun hc => ?_)
    · replace hq := ifp hc hq
      refine V.aconst_null d_Pa_passType_27 ?_
      refine V.aret d_Pa_passType_28 rfl ?_
      exact V.rR hq
    · replace hq := ifn hc hq
      refine V.aload_n d_Pa_passType_29 rfl ?_
      obtain ⟨g9, hq⟩ := hq
      refine V.get2 d_Pa_passType_30 rfl (List.mem_singleton.mpr g9) ?_
      refine V.iload d_Pa_passType_33 rfl ?_
      refine V.aload_n d_Pa_passType_35 rfl ?_
      refine V.iload_n d_Pa_passType_36 rfl ?_
      obtain ⟨g10, hq⟩ := hq
      refine V.callR d_Pa_passType_37 (cV_call (t := [_, _, _]) (rs := []) rfl (Or.inl rfl) rfl (lk1 g10) ⟨leb rfl, leb rfl⟩) hq (fun v11 h12 hq => ?_)
      refine V.astore (l' := [_, _, _, _, _, _]) d_Pa_passType_40 rfl (ltb rfl) ?_
      refine V.aload d_Pa_passType_42 rfl ?_
      refine V.ifnonnull (t := 49) d_Pa_passType_44 ⟨rfl, rfl⟩ (fun hc => ?_) (fun hc => ?_)
      · replace hq := ifp hc hq
        refine V.aconst_null d_Pa_passType_47 ?_
        refine V.aret d_Pa_passType_48 rfl ?_
        exact V.rR hq
      · replace hq := ifn hc hq
        refine V.aload_n d_Pa_passType_49 rfl ?_
        refine V.dupR d_Pa_passType_50 ?_
        obtain ⟨g14, hq⟩ := hq
        refine V.get0 d_Pa_passType_51 rfl (List.mem_singleton.mpr g14) ?_
        refine V.iconst (x := 1) d_Pa_passType_54 (by decide) ?_
        refine V.iadd d_Pa_passType_55 ?_
        refine V.put0 d_Pa_passType_56 rfl (Or.inl rfl) (List.mem_singleton.mpr g14) ?_
        replace hq := hq _ rfl
        refine V.aload_n d_Pa_passType_59 rfl ?_
        refine V.aload d_Pa_passType_60 rfl ?_
        refine V.iload_n d_Pa_passType_62 rfl ?_
        refine V.callI d_Pa_passType_63 (cV_call (t := [_, _]) (rs := []) rfl (Or.inl rfl) rfl (lk1 g14) ⟨leb rfl, leb rfl⟩) hq (fun v16 h17 hq => ?_)
        refine V.if_eq (t := 74) d_Pa_passType_66 ⟨rfl, rfl⟩ (fun hc => ?_) (fun hc => ?_)
        · replace hq := ifp hc hq
          refine V.aconst_null d_Pa_passType_74 ?_
          refine V.aret d_Pa_passType_75 rfl ?_
          exact V.rR hq
        · replace hq := ifn hc hq
          refine V.aload d_Pa_passType_69 rfl ?_
          refine V.goto (t := 75) d_Pa_passType_71 ⟨rfl, rfl⟩ ?_
          refine V.aret d_Pa_passType_75 rfl ?_
          exact V.rR hq
theorem w_Pa_beginsType {d : Nat} {K : Int32 → Hp → Prop} {x0 : Int32} {x1 : Int32} {h0 : Hp} (hq :
  (if x0.toInt = 42 then (if x1 < (5 : Int32) then K (1 : Int32) h0 else K (0 : Int32) h0) else (if x0.toInt = 47 then (if x1 < (5 : Int32) then K (1 : Int32) h0 else K (0 : Int32) h0) else (if x0.toInt = 63 then (if x1 < (5 : Int32) then K (1 : Int32) h0 else K (0 : Int32) h0) else (if x0.toInt = 100 then K (1 : Int32) h0 else (if x0.toInt = 102 then K (1 : Int32) h0 else (if x0.toInt = 112 then K (1 : Int32) h0 else (if x0.toInt = 114 then K (1 : Int32) h0 else (if x0.toInt = 115 then K (1 : Int32) h0 else (if x0.toInt = 117 then K (1 : Int32) h0 else (if x0.toInt = 118 then K (1 : Int32) h0 else (if x0.toInt = 122 then K (1 : Int32) h0 else (if x0.toInt = 123 then K (1 : Int32) h0 else K (0 : Int32) h0))))))))))))) : Ca d m_Pa_beginsType [.int x0, .int x1] h0 (QI K) := by
  show Wp _ _ 0 [some (.int x0), some (.int x1)] [] h0 _
  refine V.iload_n d_Pa_beginsType_0 rfl ?_
  refine V.lookup d_Pa_beginsType_1 ⟨rfl, rfl, rfl⟩ ?_
  refine swW_c (fun hc => ?_) (fun hc => ?_)
  · replace hq := ifp hc hq
    refine V.tg (t := 110) rfl ?_
    refine V.iload_n d_Pa_beginsType_110 rfl ?_
    refine V.iconst (x := 5) d_Pa_beginsType_111 (by decide) ?_
    refine V.ic_ge (t := 119) d_Pa_beginsType_112 ⟨rfl, rfl⟩ (fun hc => ?_) (fun hc => ?_)
    · replace hq := ifp hc hq
      refine V.iconst (x := 1) d_Pa_beginsType_115 (by decide) ?_
      refine V.goto (t := 120) d_Pa_beginsType_116 ⟨rfl, rfl⟩ ?_
      refine V.zret (y := (1 : Int32)) d_Pa_beginsType_120 rfl (by decide) ?_
      exact V.rI hq
    · replace hq := ifn hc hq
      refine V.iconst (x := 0) d_Pa_beginsType_119 (by decide) ?_
      refine V.zret (y := (0 : Int32)) d_Pa_beginsType_120 rfl (by decide) ?_
      exact V.rI hq
  · replace hq := ifn hc hq
    refine swW_c (fun hc => ?_) (fun hc => ?_)
    · replace hq := ifp hc hq
      refine V.tg (t := 110) rfl ?_
      refine V.iload_n d_Pa_beginsType_110 rfl ?_
      refine V.iconst (x := 5) d_Pa_beginsType_111 (by decide) ?_
      refine V.ic_ge (t := 119) d_Pa_beginsType_112 ⟨rfl, rfl⟩ (fun hc => ?_) (fun hc => ?_)
      · replace hq := ifp hc hq
        refine V.iconst (x := 1) d_Pa_beginsType_115 (by decide) ?_
        refine V.goto (t := 120) d_Pa_beginsType_116 ⟨rfl, rfl⟩ ?_
        refine V.zret (y := (1 : Int32)) d_Pa_beginsType_120 rfl (by decide) ?_
        exact V.rI hq
      · replace hq := ifn hc hq
        refine V.iconst (x := 0) d_Pa_beginsType_119 (by decide) ?_
        refine V.zret (y := (0 : Int32)) d_Pa_beginsType_120 rfl (by decide) ?_
        exact V.rI hq
    · replace hq := ifn hc hq
      refine swW_c (fun hc => ?_) (fun hc => ?_)
      · replace hq := ifp hc hq
        refine V.tg (t := 110) rfl ?_
        refine V.iload_n d_Pa_beginsType_110 rfl ?_
        refine V.iconst (x := 5) d_Pa_beginsType_111 (by decide) ?_
        refine V.ic_ge (t := 119) d_Pa_beginsType_112 ⟨rfl, rfl⟩ (fun hc => ?_) (fun hc => ?_)
        · replace hq := ifp hc hq
          refine V.iconst (x := 1) d_Pa_beginsType_115 (by decide) ?_
          refine V.goto (t := 120) d_Pa_beginsType_116 ⟨rfl, rfl⟩ ?_
          refine V.zret (y := (1 : Int32)) d_Pa_beginsType_120 rfl (by decide) ?_
          exact V.rI hq
        · replace hq := ifn hc hq
          refine V.iconst (x := 0) d_Pa_beginsType_119 (by decide) ?_
          refine V.zret (y := (0 : Int32)) d_Pa_beginsType_120 rfl (by decide) ?_
          exact V.rI hq
      · replace hq := ifn hc hq
        refine swW_c (fun hc => ?_) (fun hc => ?_)
        · replace hq := ifp hc hq
          refine V.tg (t := 108) rfl ?_
          refine V.iconst (x := 1) d_Pa_beginsType_108 (by decide) ?_
          refine V.zret (y := (1 : Int32)) d_Pa_beginsType_109 rfl (by decide) ?_
          exact V.rI hq
        · replace hq := ifn hc hq
          refine swW_c (fun hc => ?_) (fun hc => ?_)
          · replace hq := ifp hc hq
            refine V.tg (t := 108) rfl ?_
            refine V.iconst (x := 1) d_Pa_beginsType_108 (by decide) ?_
            refine V.zret (y := (1 : Int32)) d_Pa_beginsType_109 rfl (by decide) ?_
            exact V.rI hq
          · replace hq := ifn hc hq
            refine swW_c (fun hc => ?_) (fun hc => ?_)
            · replace hq := ifp hc hq
              refine V.tg (t := 108) rfl ?_
              refine V.iconst (x := 1) d_Pa_beginsType_108 (by decide) ?_
              refine V.zret (y := (1 : Int32)) d_Pa_beginsType_109 rfl (by decide) ?_
              exact V.rI hq
            · replace hq := ifn hc hq
              refine swW_c (fun hc => ?_) (fun hc => ?_)
              · replace hq := ifp hc hq
                refine V.tg (t := 108) rfl ?_
                refine V.iconst (x := 1) d_Pa_beginsType_108 (by decide) ?_
                refine V.zret (y := (1 : Int32)) d_Pa_beginsType_109 rfl (by decide) ?_
                exact V.rI hq
              · replace hq := ifn hc hq
                refine swW_c (fun hc => ?_) (fun hc => ?_)
                · replace hq := ifp hc hq
                  refine V.tg (t := 108) rfl ?_
                  refine V.iconst (x := 1) d_Pa_beginsType_108 (by decide) ?_
                  refine V.zret (y := (1 : Int32)) d_Pa_beginsType_109 rfl (by decide) ?_
                  exact V.rI hq
                · replace hq := ifn hc hq
                  refine swW_c (fun hc => ?_) (fun hc => ?_)
                  · replace hq := ifp hc hq
                    refine V.tg (t := 108) rfl ?_
                    refine V.iconst (x := 1) d_Pa_beginsType_108 (by decide) ?_
                    refine V.zret (y := (1 : Int32)) d_Pa_beginsType_109 rfl (by decide) ?_
                    exact V.rI hq
                  · replace hq := ifn hc hq
                    refine swW_c (fun hc => ?_) (fun hc => ?_)
                    · replace hq := ifp hc hq
                      refine V.tg (t := 108) rfl ?_
                      refine V.iconst (x := 1) d_Pa_beginsType_108 (by decide) ?_
                      refine V.zret (y := (1 : Int32)) d_Pa_beginsType_109 rfl (by decide) ?_
                      exact V.rI hq
                    · replace hq := ifn hc hq
                      refine swW_c (fun hc => ?_) (fun hc => ?_)
                      · replace hq := ifp hc hq
                        refine V.tg (t := 108) rfl ?_
                        refine V.iconst (x := 1) d_Pa_beginsType_108 (by decide) ?_
                        refine V.zret (y := (1 : Int32)) d_Pa_beginsType_109 rfl (by decide) ?_
                        exact V.rI hq
                      · replace hq := ifn hc hq
                        refine swW_c (fun hc => ?_) (fun hc => ?_)
                        · replace hq := ifp hc hq
                          refine V.tg (t := 108) rfl ?_
                          refine V.iconst (x := 1) d_Pa_beginsType_108 (by decide) ?_
                          refine V.zret (y := (1 : Int32)) d_Pa_beginsType_109 rfl (by decide) ?_
                          exact V.rI hq
                        · replace hq := ifn hc hq
                          refine V.tg (t := 121) rfl ?_
                          refine V.iconst (x := 0) d_Pa_beginsType_121 (by decide) ?_
                          refine V.zret (y := (0 : Int32)) d_Pa_beginsType_122 rfl (by decide) ?_
                          exact V.rI hq
set_option maxRecDepth 100000 in
theorem w_Pa_passTail {d : Nat} {K : Int32 → Hp → Prop} {x0 : Nat} {x1 : Nat} {x2 : Int32} {h0 : Hp} (hq :
  ((hS h0 x1).1 = 2 ∧ (if (hI h0 x1 0).toInt = 42 then ((hS h0 x0).1 = 4 ∧ Ca d m_Pa_passKey [.ref x0, .ref x1] h0 (QI (fun v3 h4 => (if v3 = 0 then K (0 : Int32) h4 else ((hS h4 x1).1 = 2 ∧ ((hS h4 x0).1 = 4 ∧ Ca d m_Pa_passPart [.ref x0, .ref x1, .int (hI h4 x1 2), .int x2] h4 (QR (fun v8 h9 => (if v8 = 0 then K (0 : Int32) h9 else K (1 : Int32) h9))))))))) else (if (hI h0 x1 0).toInt = 47 then ((hS h0 x0).1 = 4 ∧ Ca d m_Pa_passKey [.ref x0, .ref x1] h0 (QI (fun v12 h13 => (if v12 = 0 then K (0 : Int32) h13 else ((hS h13 x1).1 = 2 ∧ ((hS h13 x0).1 = 4 ∧ Ca d m_Pa_passPart [.ref x0, .ref x1, .int (hI h13 x1 2), .int x2] h13 (QR (fun v17 h18 => (if v17 = 0 then K (0 : Int32) h18 else K (1 : Int32) h18))))))))) else (if (hI h0 x1 0).toInt = 63 then ((hS h0 x0).1 = 4 ∧ Ca d m_Pa_passKey [.ref x0, .ref x1] h0 (QI (fun v21 h22 => (if v21 = 0 then K (0 : Int32) h22 else ((hS h22 x0).1 = 4 ∧ Ca d m_Pa_passSign [.ref x0, .int (123 : Int32)] h22 (QI (fun v25 h26 => (if v25 = 0 then K (0 : Int32) h26 else ((hS h26 x0).1 = 4 ∧ Ca d m_Pa_passCases [.ref x0, .ref x1, .int x2] h26 (QI (fun v29 h30 => (if v29 = 0 then K (0 : Int32) h30 else K (1 : Int32) h30)))))))))))) else (if (hI h0 x1 0).toInt = 100 then Ca d m_No_widenTo [.ref x1, .int (8 : Int32)] h0 (QV (fun h32 => K (1 : Int32) h32)) else (if (hI h0 x1 0).toInt = 102 then Ca d m_No_widenTo [.ref x1, .int (4 : Int32)] h0 (QV (fun h34 => K (1 : Int32) h34)) else (if (hI h0 x1 0).toInt = 112 then ((hS h0 x0).1 = 4 ∧ Ca d m_Pa_passWidth [.ref x0, .ref x1, .int (7 : Int32)] h0 (QI (fun v37 h38 => (if v37 = 0 then K (0 : Int32) h38 else ((hS h38 x0).1 = 4 ∧ Ca d m_Pa_passLimit [.ref x0, .ref x1] h38 (QI (fun v41 h42 => (if v41 = 0 then K (0 : Int32) h42 else K (1 : Int32) h42)))))))) else (if (hI h0 x1 0).toInt = 114 then K (1 : Int32) h0 else (if (hI h0 x1 0).toInt = 122 then K (1 : Int32) h0 else (if (hI h0 x1 0).toInt = 123 then ((hS h0 x0).1 = 4 ∧ Ca d m_Pa_passFields [.ref x0, .ref x1, .int x2] h0 (QI (fun v45 h46 => K (v45 &&& 1) h46))) else ((hS h0 x0).1 = 4 ∧ Ca d m_Pa_passWidth [.ref x0, .ref x1, .int (4 : Int32)] h0 (QI (fun v49 h50 => (if v49 = 0 then K (0 : Int32) h50 else ((hS h50 x0).1 = 4 ∧ Ca d m_Pa_passLimit [.ref x0, .ref x1] h50 (QI (fun v53 h54 => (if v53 = 0 then K (0 : Int32) h54 else K (1 : Int32) h54))))))))))))))))))) : Ca (d + 1) m_Pa_passTail [.ref x0, .ref x1, .int x2] h0 (QI K) := by
  show Wp _ _ 0 [some (.ref x0), some (.ref x1), some (.int x2)] [] h0 _
  refine V.aload_n d_Pa_passTail_0 rfl ?_
  obtain ⟨g1, hq⟩ := hq
  refine V.get0 d_Pa_passTail_1 rfl (List.mem_singleton.mpr g1) ?_
  refine V.lookup d_Pa_passTail_4 ⟨rfl, rfl, rfl⟩ ?_
  refine swW_c (fun hc => ?_) (fun hc => ?_)
  · replace hq := ifp hc hq
    refine V.tg (t := 95) rfl ?_
    refine V.aload_n d_Pa_passTail_95 rfl ?_
    refine V.aload_n d_Pa_passTail_96 rfl ?_
    obtain ⟨g2, hq⟩ := hq
    refine V.callI d_Pa_passTail_97 (cV_call (t := [_]) (rs := []) rfl (Or.inl rfl) rfl (lk1 g2) ⟨leb rfl, leb rfl⟩) hq (fun v3 h4 hq => ?_)
    refine V.if_eq (t := 120) d_Pa_passTail_100 ⟨rfl, rfl⟩ (fun hc => ?_) (fun hc => ?_)
    · replace hq := ifp hc hq
      refine V.iconst (x := 0) d_Pa_passTail_120 (by decide) ?_
      refine V.zret (y := (0 : Int32)) d_Pa_passTail_121 rfl (by decide) ?_
      exact V.rI hq
    · replace hq := ifn hc hq
      refine V.aload_n d_Pa_passTail_103 rfl ?_
      refine V.aload_n d_Pa_passTail_104 rfl ?_
      refine V.aload_n d_Pa_passTail_105 rfl ?_
      obtain ⟨g6, hq⟩ := hq
      refine V.get0 d_Pa_passTail_106 rfl (List.mem_singleton.mpr g6) ?_
      refine V.iload_n d_Pa_passTail_109 rfl ?_
      obtain ⟨g7, hq⟩ := hq
      refine V.callR d_Pa_passTail_110 (cV_call (t := [_, _, _]) (rs := []) rfl (Or.inl rfl) rfl (lk1 g7) ⟨leb rfl, leb rfl⟩) hq (fun v8 h9 hq => ?_)
      refine V.ifnull (t := 120) d_Pa_passTail_113 ⟨rfl, rfl⟩ (fun hc => ?_) (fun hc => ?_)
      · replace hq := ifp hc hq
        refine V.iconst (x := 0) d_Pa_passTail_120 (by decide) ?_
        refine V.zret (y := (0 : Int32)) d_Pa_passTail_121 rfl (by decide) ?_
        exact V.rI hq
      · replace hq := ifn hc hq
        refine V.iconst (x := 1) d_Pa_passTail_116 (by decide) ?_
        refine V.goto (t := 121) d_Pa_passTail_117 ⟨rfl, rfl⟩ ?_
        refine V.zret (y := (1 : Int32)) d_Pa_passTail_121 rfl (by decide) ?_
        exact V.rI hq
  · replace hq := ifn hc hq
    refine swW_c (fun hc => ?_) (fun hc => ?_)
    · replace hq := ifp hc hq
      refine V.tg (t := 95) rfl ?_
      refine V.aload_n d_Pa_passTail_95 rfl ?_
      refine V.aload_n d_Pa_passTail_96 rfl ?_
      obtain ⟨g11, hq⟩ := hq
      refine V.callI d_Pa_passTail_97 (cV_call (t := [_]) (rs := []) rfl (Or.inl rfl) rfl (lk1 g11) ⟨leb rfl, leb rfl⟩) hq (fun v12 h13 hq => ?_)
      refine V.if_eq (t := 120) d_Pa_passTail_100 ⟨rfl, rfl⟩ (fun hc => ?_) (fun hc => ?_)
      · replace hq := ifp hc hq
        refine V.iconst (x := 0) d_Pa_passTail_120 (by decide) ?_
        refine V.zret (y := (0 : Int32)) d_Pa_passTail_121 rfl (by decide) ?_
        exact V.rI hq
      · replace hq := ifn hc hq
        refine V.aload_n d_Pa_passTail_103 rfl ?_
        refine V.aload_n d_Pa_passTail_104 rfl ?_
        refine V.aload_n d_Pa_passTail_105 rfl ?_
        obtain ⟨g15, hq⟩ := hq
        refine V.get0 d_Pa_passTail_106 rfl (List.mem_singleton.mpr g15) ?_
        refine V.iload_n d_Pa_passTail_109 rfl ?_
        obtain ⟨g16, hq⟩ := hq
        refine V.callR d_Pa_passTail_110 (cV_call (t := [_, _, _]) (rs := []) rfl (Or.inl rfl) rfl (lk1 g16) ⟨leb rfl, leb rfl⟩) hq (fun v17 h18 hq => ?_)
        refine V.ifnull (t := 120) d_Pa_passTail_113 ⟨rfl, rfl⟩ (fun hc => ?_) (fun hc => ?_)
        · replace hq := ifp hc hq
          refine V.iconst (x := 0) d_Pa_passTail_120 (by decide) ?_
          refine V.zret (y := (0 : Int32)) d_Pa_passTail_121 rfl (by decide) ?_
          exact V.rI hq
        · replace hq := ifn hc hq
          refine V.iconst (x := 1) d_Pa_passTail_116 (by decide) ?_
          refine V.goto (t := 121) d_Pa_passTail_117 ⟨rfl, rfl⟩ ?_
          refine V.zret (y := (1 : Int32)) d_Pa_passTail_121 rfl (by decide) ?_
          exact V.rI hq
    · replace hq := ifn hc hq
      refine swW_c (fun hc => ?_) (fun hc => ?_)
      · replace hq := ifp hc hq
        refine V.tg (t := 122) rfl ?_
        refine V.aload_n d_Pa_passTail_122 rfl ?_
        refine V.aload_n d_Pa_passTail_123 rfl ?_
        obtain ⟨g20, hq⟩ := hq
        refine V.callI d_Pa_passTail_124 (cV_call (t := [_]) (rs := []) rfl (Or.inl rfl) rfl (lk1 g20) ⟨leb rfl, leb rfl⟩) hq (fun v21 h22 hq => ?_)
        refine V.if_eq (t := 152) d_Pa_passTail_127 ⟨rfl, rfl⟩ (fun hc => ?_) (fun hc => ?_)
        · replace hq := ifp hc hq
          refine V.iconst (x := 0) d_Pa_passTail_152 (by decide) ?_
          refine V.zret (y := (0 : Int32)) d_Pa_passTail_153 rfl (by decide) ?_
          exact V.rI hq
        · replace hq := ifn hc hq
          refine V.aload_n d_Pa_passTail_130 rfl ?_
          refine V.bipush (x := 123) d_Pa_passTail_131 (by decide) ?_
          obtain ⟨g24, hq⟩ := hq
          refine V.callI d_Pa_passTail_133 (cV_call (t := [_]) (rs := []) rfl (Or.inl rfl) rfl (lk1 g24) ⟨leb rfl, leb rfl⟩) hq (fun v25 h26 hq => ?_)
          refine V.if_eq (t := 152) d_Pa_passTail_136 ⟨rfl, rfl⟩ (fun hc => ?_) (fun hc => ?_)
          · replace hq := ifp hc hq
            refine V.iconst (x := 0) d_Pa_passTail_152 (by decide) ?_
            refine V.zret (y := (0 : Int32)) d_Pa_passTail_153 rfl (by decide) ?_
            exact V.rI hq
          · replace hq := ifn hc hq
            refine V.aload_n d_Pa_passTail_139 rfl ?_
            refine V.aload_n d_Pa_passTail_140 rfl ?_
            refine V.iload_n d_Pa_passTail_141 rfl ?_
            obtain ⟨g28, hq⟩ := hq
            refine V.callI d_Pa_passTail_142 (cV_call (t := [_, _]) (rs := []) rfl (Or.inl rfl) rfl (lk1 g28) ⟨leb rfl, leb rfl⟩) hq (fun v29 h30 hq => ?_)
            refine V.if_eq (t := 152) d_Pa_passTail_145 ⟨rfl, rfl⟩ (fun hc => ?_) (fun hc => ?_)
            · replace hq := ifp hc hq
              refine V.iconst (x := 0) d_Pa_passTail_152 (by decide) ?_
              refine V.zret (y := (0 : Int32)) d_Pa_passTail_153 rfl (by decide) ?_
              exact V.rI hq
            · replace hq := ifn hc hq
              refine V.iconst (x := 1) d_Pa_passTail_148 (by decide) ?_
              refine V.goto (t := 153) d_Pa_passTail_149 ⟨rfl, rfl⟩ ?_
              refine V.zret (y := (1 : Int32)) d_Pa_passTail_153 rfl (by decide) ?_
              exact V.rI hq
      · replace hq := ifn hc hq
        refine swW_c (fun hc => ?_) (fun hc => ?_)
        · replace hq := ifp hc hq
          refine V.tg (t := 185) rfl ?_
          refine V.aload_n d_Pa_passTail_185 rfl ?_
          refine V.bipush (x := 8) d_Pa_passTail_186 (by decide) ?_
          refine V.callV d_Pa_passTail_188 (cV_call (t := [_]) (rs := []) rfl (Or.inl rfl) rfl (lk1 g1) ⟨leb rfl, leb rfl⟩) hq (fun h32 hq => ?_)
          refine V.iconst (x := 1) d_Pa_passTail_191 (by decide) ?_
          refine V.zret (y := (1 : Int32)) d_Pa_passTail_192 rfl (by decide) ?_
          exact V.rI hq
        · replace hq := ifn hc hq
          refine swW_c (fun hc => ?_) (fun hc => ?_)
          · replace hq := ifp hc hq
            refine V.tg (t := 178) rfl ?_
            refine V.aload_n d_Pa_passTail_178 rfl ?_
            refine V.iconst (x := 4) d_Pa_passTail_179 (by decide) ?_
            refine V.callV d_Pa_passTail_180 (cV_call (t := [_]) (rs := []) rfl (Or.inl rfl) rfl (lk1 g1) ⟨leb rfl, leb rfl⟩) hq (fun h34 hq => ?_)
            refine V.iconst (x := 1) d_Pa_passTail_183 (by decide) ?_
            refine V.zret (y := (1 : Int32)) d_Pa_passTail_184 rfl (by decide) ?_
            exact V.rI hq
          · replace hq := ifn hc hq
            refine swW_c (fun hc => ?_) (fun hc => ?_)
            · replace hq := ifp hc hq
              refine V.tg (t := 154) rfl ?_
              refine V.aload_n d_Pa_passTail_154 rfl ?_
              refine V.aload_n d_Pa_passTail_155 rfl ?_
              refine V.bipush (x := 7) d_Pa_passTail_156 (by decide) ?_
              obtain ⟨g36, hq⟩ := hq
              refine V.callI d_Pa_passTail_158 (cV_call (t := [_, _]) (rs := []) rfl (Or.inl rfl) rfl (lk1 g36) ⟨leb rfl, leb rfl⟩) hq (fun v37 h38 hq => ?_)
              refine V.if_eq (t := 176) d_Pa_passTail_161 ⟨rfl, rfl⟩ (fun hc => ?_) (fun hc => ?_)
              · replace hq := ifp hc hq
                refine V.iconst (x := 0) d_Pa_passTail_176 (by decide) ?_
                refine V.zret (y := (0 : Int32)) d_Pa_passTail_177 rfl (by decide) ?_
                exact V.rI hq
              · replace hq := ifn hc hq
                refine V.aload_n d_Pa_passTail_164 rfl ?_
                refine V.aload_n d_Pa_passTail_165 rfl ?_
                obtain ⟨g40, hq⟩ := hq
                refine V.callI d_Pa_passTail_166 (cV_call (t := [_]) (rs := []) rfl (Or.inl rfl) rfl (lk1 g40) ⟨leb rfl, leb rfl⟩) hq (fun v41 h42 hq => ?_)
                refine V.if_eq (t := 176) d_Pa_passTail_169 ⟨rfl, rfl⟩ (fun hc => ?_) (fun hc => ?_)
                · replace hq := ifp hc hq
                  refine V.iconst (x := 0) d_Pa_passTail_176 (by decide) ?_
                  refine V.zret (y := (0 : Int32)) d_Pa_passTail_177 rfl (by decide) ?_
                  exact V.rI hq
                · replace hq := ifn hc hq
                  refine V.iconst (x := 1) d_Pa_passTail_172 (by decide) ?_
                  refine V.goto (t := 177) d_Pa_passTail_173 ⟨rfl, rfl⟩ ?_
                  refine V.zret (y := (1 : Int32)) d_Pa_passTail_177 rfl (by decide) ?_
                  exact V.rI hq
            · replace hq := ifn hc hq
              refine swW_c (fun hc => ?_) (fun hc => ?_)
              · replace hq := ifp hc hq
                refine V.tg (t := 193) rfl ?_
                refine V.iconst (x := 1) d_Pa_passTail_193 (by decide) ?_
                refine V.zret (y := (1 : Int32)) d_Pa_passTail_194 rfl (by decide) ?_
                exact V.rI hq
              · replace hq := ifn hc hq
                refine swW_c (fun hc => ?_) (fun hc => ?_)
                · replace hq := ifp hc hq
                  refine V.tg (t := 193) rfl ?_
                  refine V.iconst (x := 1) d_Pa_passTail_193 (by decide) ?_
                  refine V.zret (y := (1 : Int32)) d_Pa_passTail_194 rfl (by decide) ?_
                  exact V.rI hq
                · replace hq := ifn hc hq
                  refine swW_c (fun hc => ?_) (fun hc => ?_)
                  · replace hq := ifp hc hq
                    refine V.tg (t := 88) rfl ?_
                    refine V.aload_n d_Pa_passTail_88 rfl ?_
                    refine V.aload_n d_Pa_passTail_89 rfl ?_
                    refine V.iload_n d_Pa_passTail_90 rfl ?_
                    obtain ⟨g44, hq⟩ := hq
                    refine V.callI d_Pa_passTail_91 (cV_call (t := [_, _]) (rs := []) rfl (Or.inl rfl) rfl (lk1 g44) ⟨leb rfl, leb rfl⟩) hq (fun v45 h46 hq => ?_)
                    refine V.zret (y := _) d_Pa_passTail_94 rfl rfl ?_
                    exact V.rI hq
                  · replace hq := ifn hc hq
                    refine V.tg (t := 195) rfl ?_
                    refine V.aload_n d_Pa_passTail_195 rfl ?_
                    refine V.aload_n d_Pa_passTail_196 rfl ?_
                    refine V.iconst (x := 4) d_Pa_passTail_197 (by decide) ?_
                    obtain ⟨g48, hq⟩ := hq
                    refine V.callI d_Pa_passTail_198 (cV_call (t := [_, _]) (rs := []) rfl (Or.inl rfl) rfl (lk1 g48) ⟨leb rfl, leb rfl⟩) hq (fun v49 h50 hq => ?_)
                    refine V.if_eq (t := 216) d_Pa_passTail_201 ⟨rfl, rfl⟩ (fun hc => ?_) (fun hc => ?_)
                    · replace hq := ifp hc hq
                      refine V.iconst (x := 0) d_Pa_passTail_216 (by decide) ?_
                      refine V.zret (y := (0 : Int32)) d_Pa_passTail_217 rfl (by decide) ?_
                      exact V.rI hq
                    · replace hq := ifn hc hq
                      refine V.aload_n d_Pa_passTail_204 rfl ?_
                      refine V.aload_n d_Pa_passTail_205 rfl ?_
                      obtain ⟨g52, hq⟩ := hq
                      refine V.callI d_Pa_passTail_206 (cV_call (t := [_]) (rs := []) rfl (Or.inl rfl) rfl (lk1 g52) ⟨leb rfl, leb rfl⟩) hq (fun v53 h54 hq => ?_)
                      refine V.if_eq (t := 216) d_Pa_passTail_209 ⟨rfl, rfl⟩ (fun hc => ?_) (fun hc => ?_)
                      · replace hq := ifp hc hq
                        refine V.iconst (x := 0) d_Pa_passTail_216 (by decide) ?_
                        refine V.zret (y := (0 : Int32)) d_Pa_passTail_217 rfl (by decide) ?_
                        exact V.rI hq
                      · replace hq := ifn hc hq
                        refine V.iconst (x := 1) d_Pa_passTail_212 (by decide) ?_
                        refine V.goto (t := 217) d_Pa_passTail_213 ⟨rfl, rfl⟩ ?_
                        refine V.zret (y := (1 : Int32)) d_Pa_passTail_217 rfl (by decide) ?_
                        exact V.rI hq
theorem w_Pa_passPart {d : Nat} {K : Nat → Hp → Prop} {x0 : Nat} {x1 : Nat} {x2 : Int32} {x3 : Int32} {h0 : Hp} (hq :
  ((hS h0 x0).1 = 4 ∧ Ca d m_Pa_passType [.ref x0, .ref x1, .int x2, .int (x3 + (1 : Int32))] h0 (QR (fun v2 h3 => (if v2 = 0 then K v2 h3 else ((hS h3 x1).1 = 2 ∧ Ca d m_No_addPart [.ref x1, .ref v2] h3 (QV (fun h6 => K v2 h6)))))))) : Ca (d + 1) m_Pa_passPart [.ref x0, .ref x1, .int x2, .int x3] h0 (QR K) := by
  show Wp _ _ 0 [some (.ref x0), some (.ref x1), some (.int x2), some (.int x3), none] [] h0 _
  refine V.aload_n d_Pa_passPart_0 rfl ?_
  refine V.aload_n d_Pa_passPart_1 rfl ?_
  refine V.iload_n d_Pa_passPart_2 rfl ?_
  refine V.iload_n d_Pa_passPart_3 rfl ?_
  refine V.iconst (x := 1) d_Pa_passPart_4 (by decide) ?_
  refine V.iadd d_Pa_passPart_5 ?_
  obtain ⟨g1, hq⟩ := hq
  refine V.callR d_Pa_passPart_6 (cV_call (t := [_, _, _]) (rs := []) rfl (Or.inl rfl) rfl (lk1 g1) ⟨leb rfl, leb rfl⟩) hq (fun v2 h3 hq => ?_)
  refine V.astore (l' := [_, _, _, _, _]) d_Pa_passPart_9 rfl (ltb rfl) ?_
  refine V.aload d_Pa_passPart_11 rfl ?_
  refine V.ifnull (t := 22) d_Pa_passPart_13 ⟨rfl, rfl⟩ (fun hc => ?_) (fun hc => ?_)
  · replace hq := ifp hc hq
    refine V.aload d_Pa_passPart_22 rfl ?_
    refine V.aret d_Pa_passPart_24 rfl ?_
    exact V.rR hq
  · replace hq := ifn hc hq
    refine V.aload_n d_Pa_passPart_16 rfl ?_
    refine V.aload d_Pa_passPart_17 rfl ?_
    obtain ⟨g5, hq⟩ := hq
    refine V.callV d_Pa_passPart_19 (cV_call (t := [_]) (rs := []) rfl (Or.inl rfl) rfl (lk1 g5) ⟨leb rfl, leb rfl⟩) hq (fun h6 hq => ?_)
    refine V.aload d_Pa_passPart_22 rfl ?_
    refine V.aret d_Pa_passPart_24 rfl ?_
    exact V.rR hq
theorem w_Pa_passFields {d : Nat} {K : Int32 → Hp → Prop} {x0 : Nat} {x1 : Nat} {x2 : Int32} {h0 : Hp} (hq :
  Wp (d + 1) m_Pa_passFields 2 [some (.ref x0), some (.ref x1), some (.int x2), some (.int (0 : Int32))] [] h0 (QI K)) : Ca (d + 1) m_Pa_passFields [.ref x0, .ref x1, .int x2] h0 (QI K) := by
  show Wp _ _ 0 [some (.ref x0), some (.ref x1), some (.int x2), none] [] h0 _
  refine V.iconst (x := 0) d_Pa_passFields_0 (by decide) ?_
  refine V.istore_n (l' := [_, _, _, _]) d_Pa_passFields_1 rfl (ltb rfl) ?_
  exact hq
theorem w_Pa_passFields_2 {d : Nat} {K : Int32 → Hp → Prop} {x0 : Nat} {x1 : Nat} {x2 : Int32} {x3 : Int32} {h0 : Hp} (hq :
  (if x3 < (90 : Int32) then ((hS h0 x0).1 = 4 ∧ Ca d m_Pa_passSign [.ref x0, .int (125 : Int32)] h0 (QI (fun v2 h3 => (if v2 = 0 then (if x2 < (5 : Int32) then ((hS h3 x0).1 = 4 ∧ Ca d m_Pa_passField [.ref x0, .ref x1, .int x2] h3 (QI (fun v6 h7 => (if v6 = 0 then K (0 : Int32) h7 else (∀ v9 : Int32, v9 = (x3 + 1) → Wp (d + 1) m_Pa_passFields 2 [some (.ref x0), some (.ref x1), some (.int x2), some (.int v9)] [] h7 (QI K)))))) else K (0 : Int32) h3) else K (1 : Int32) h3)))) else K (0 : Int32) h0)) : Wp (d + 1) m_Pa_passFields 2 [some (.ref x0), some (.ref x1), some (.int x2), some (.int x3)] [] h0 (QI K) := by
  refine V.iload_n d_Pa_passFields_2 rfl ?_
  refine V.bipush (x := 90) d_Pa_passFields_3 (by decide) ?_
  refine V.ic_ge (t := 41) d_Pa_passFields_5 ⟨rfl, rfl⟩ (fun hc => ?_) (fun hc => ?_)
  · replace hq := ifp hc hq
    refine V.aload_n d_Pa_passFields_8 rfl ?_
    refine V.bipush (x := 125) d_Pa_passFields_9 (by decide) ?_
    obtain ⟨g1, hq⟩ := hq
    refine V.callI d_Pa_passFields_11 (cV_call (t := [_]) (rs := []) rfl (Or.inl rfl) rfl (lk1 g1) ⟨leb rfl, leb rfl⟩) hq (fun v2 h3 hq => ?_)
    refine V.if_eq (t := 19) d_Pa_passFields_14 ⟨rfl, rfl⟩ (fun hc => ?_) (fun hc => ?_)
    · replace hq := ifp hc hq
      refine V.iload_n d_Pa_passFields_19 rfl ?_
      refine V.iconst (x := 5) d_Pa_passFields_20 (by decide) ?_
      refine V.ic_ge (t := 33) d_Pa_passFields_21 ⟨rfl, rfl⟩ (fun hc => ?_) (fun hc => ?_)
      · replace hq := ifp hc hq
        refine V.aload_n d_Pa_passFields_24 rfl ?_
        refine V.aload_n d_Pa_passFields_25 rfl ?_
        refine V.iload_n d_Pa_passFields_26 rfl ?_
        obtain ⟨g5, hq⟩ := hq
        refine V.callI d_Pa_passFields_27 (cV_call (t := [_, _]) (rs := []) rfl (Or.inl rfl) rfl (lk1 g5) ⟨leb rfl, leb rfl⟩) hq (fun v6 h7 hq => ?_)
        refine V.if_ne (t := 35) d_Pa_passFields_30 ⟨rfl, rfl⟩ (fun hc => ?_) (fun hc => ?_)
        · replace hq := ifp hc hq
          refine V.iconst (x := 0) d_Pa_passFields_33 (by decide) ?_
          refine V.zret (y := (0 : Int32)) d_Pa_passFields_34 rfl (by decide) ?_
          exact V.rI hq
        · replace hq := ifn hc hq
          replace hq := hq _ rfl
          refine V.iinc (l' := [_, _, _, _]) d_Pa_passFields_35 rfl (show _ + _ = _ + (1 : Int32) from rfl) rfl ?_
          refine V.goto (t := 2) d_Pa_passFields_38 ⟨rfl, rfl⟩ ?_
          exact hq
      · replace hq := ifn hc hq
        refine V.iconst (x := 0) d_Pa_passFields_33 (by decide) ?_
        refine V.zret (y := (0 : Int32)) d_Pa_passFields_34 rfl (by decide) ?_
        exact V.rI hq
    · replace hq := ifn hc hq
      refine V.iconst (x := 1) d_Pa_passFields_17 (by decide) ?_
      refine V.zret (y := (1 : Int32)) d_Pa_passFields_18 rfl (by decide) ?_
      exact V.rI hq
  · replace hq := ifn hc hq
    refine V.iconst (x := 0) d_Pa_passFields_41 (by decide) ?_
    refine V.zret (y := (0 : Int32)) d_Pa_passFields_42 rfl (by decide) ?_
    exact V.rI hq
theorem w_Pa_passField {d : Nat} {K : Int32 → Hp → Prop} {x0 : Nat} {x1 : Nat} {x2 : Int32} {h0 : Hp} (hq :
  ((hS h0 x0).1 = 4 ∧ Ca d m_Pa_passName [.ref x0] h0 (QI (fun v2 h3 => (if v2 = (-1 : Int32) then K (0 : Int32) h3 else ((hS h3 x0).1 = 4 ∧ Ca d m_Pa_passSign [.ref x0, .int (58 : Int32)] h3 (QI (fun v6 h7 => (if v6 = 0 then K (0 : Int32) h7 else ((hS h7 x0).1 = 4 ∧ Ca d m_Pa_passPart [.ref x0, .ref x1, .int v2, .int x2] h7 (QR (fun v10 h11 => (if v10 = 0 then K (0 : Int32) h11 else ((hS h11 x0).1 = 4 ∧ Ca d m_Pa_passSign [.ref x0, .int (59 : Int32)] h11 (QI (fun v14 h15 => (if v14 = 0 then K (0 : Int32) h15 else K (1 : Int32) h15))))))))))))))))) : Ca (d + 1) m_Pa_passField [.ref x0, .ref x1, .int x2] h0 (QI K) := by
  show Wp _ _ 0 [some (.ref x0), some (.ref x1), some (.int x2), none] [] h0 _
  refine V.aload_n d_Pa_passField_0 rfl ?_
  obtain ⟨g1, hq⟩ := hq
  refine V.callI d_Pa_passField_1 (cV_call (t := []) (rs := []) rfl (Or.inl rfl) rfl (lk1 g1) ⟨leb rfl, leb rfl⟩) hq (fun v2 h3 hq => ?_)
  refine V.istore_n (l' := [_, _, _, _]) d_Pa_passField_4 rfl (ltb rfl) ?_
  refine V.iload_n d_Pa_passField_5 rfl ?_
  refine V.iconst (x := -1) d_Pa_passField_6 (by decide) ?_
  refine V.ic_eq (t := 42) d_Pa_passField_7 ⟨rfl, rfl⟩ (fun hc => ?_) (fun hc => ?_)
  · replace hq := ifp hc hq
    refine V.iconst (x := 0) d_Pa_passField_42 (by decide) ?_
    refine V.zret (y := (0 : Int32)) d_Pa_passField_43 rfl (by decide) ?_
    exact V.rI hq
  · replace hq := ifn hc hq
    refine V.aload_n d_Pa_passField_10 rfl ?_
    refine V.bipush (x := 58) d_Pa_passField_11 (by decide) ?_
    obtain ⟨g5, hq⟩ := hq
    refine V.callI d_Pa_passField_13 (cV_call (t := [_]) (rs := []) rfl (Or.inl rfl) rfl (lk1 g5) ⟨leb rfl, leb rfl⟩) hq (fun v6 h7 hq => ?_)
    refine V.if_eq (t := 42) d_Pa_passField_16 ⟨rfl, rfl⟩ (fun hc => ?_) (fun hc => ?_)
    · replace hq := ifp hc hq
      refine V.iconst (x := 0) d_Pa_passField_42 (by decide) ?_
      refine V.zret (y := (0 : Int32)) d_Pa_passField_43 rfl (by decide) ?_
      exact V.rI hq
    · replace hq := ifn hc hq
      refine V.aload_n d_Pa_passField_19 rfl ?_
      refine V.aload_n d_Pa_passField_20 rfl ?_
      refine V.iload_n d_Pa_passField_21 rfl ?_
      refine V.iload_n d_Pa_passField_22 rfl ?_
      obtain ⟨g9, hq⟩ := hq
      refine V.callR d_Pa_passField_23 (cV_call (t := [_, _, _]) (rs := []) rfl (Or.inl rfl) rfl (lk1 g9) ⟨leb rfl, leb rfl⟩) hq (fun v10 h11 hq => ?_)
      refine V.ifnull (t := 42) d_Pa_passField_26 ⟨rfl, rfl⟩ (fun hc => ?_) (fun hc => ?_)
      · replace hq := ifp hc hq
        refine V.iconst (x := 0) d_Pa_passField_42 (by decide) ?_
        refine V.zret (y := (0 : Int32)) d_Pa_passField_43 rfl (by decide) ?_
        exact V.rI hq
      · replace hq := ifn hc hq
        refine V.aload_n d_Pa_passField_29 rfl ?_
        refine V.bipush (x := 59) d_Pa_passField_30 (by decide) ?_
        obtain ⟨g13, hq⟩ := hq
        refine V.callI d_Pa_passField_32 (cV_call (t := [_]) (rs := []) rfl (Or.inl rfl) rfl (lk1 g13) ⟨leb rfl, leb rfl⟩) hq (fun v14 h15 hq => ?_)
        refine V.if_eq (t := 42) d_Pa_passField_35 ⟨rfl, rfl⟩ (fun hc => ?_) (fun hc => ?_)
        · replace hq := ifp hc hq
          refine V.iconst (x := 0) d_Pa_passField_42 (by decide) ?_
          refine V.zret (y := (0 : Int32)) d_Pa_passField_43 rfl (by decide) ?_
          exact V.rI hq
        · replace hq := ifn hc hq
          refine V.iconst (x := 1) d_Pa_passField_38 (by decide) ?_
          refine V.goto (t := 43) d_Pa_passField_39 ⟨rfl, rfl⟩ ?_
          refine V.zret (y := (1 : Int32)) d_Pa_passField_43 rfl (by decide) ?_
          exact V.rI hq
theorem w_Pa_passCases {d : Nat} {K : Int32 → Hp → Prop} {x0 : Nat} {x1 : Nat} {x2 : Int32} {h0 : Hp} (hq :
  Wp (d + 1) m_Pa_passCases 2 [some (.ref x0), some (.ref x1), some (.int x2), some (.int (0 : Int32))] [] h0 (QI K)) : Ca (d + 1) m_Pa_passCases [.ref x0, .ref x1, .int x2] h0 (QI K) := by
  show Wp _ _ 0 [some (.ref x0), some (.ref x1), some (.int x2), none] [] h0 _
  refine V.iconst (x := 0) d_Pa_passCases_0 (by decide) ?_
  refine V.istore_n (l' := [_, _, _, _]) d_Pa_passCases_1 rfl (ltb rfl) ?_
  exact hq
theorem w_Pa_passCases_2 {d : Nat} {K : Int32 → Hp → Prop} {x0 : Nat} {x1 : Nat} {x2 : Int32} {x3 : Int32} {h0 : Hp} (hq :
  (if x3 < (90 : Int32) then (if 0 < x3 then ((hS h0 x0).1 = 4 ∧ Ca d m_Pa_passSign [.ref x0, .int (125 : Int32)] h0 (QI (fun v2 h3 => (if v2 = 0 then ((hS h3 x0).1 = 4 ∧ Ca d m_Pa_passCase [.ref x0, .ref x1, .int x2] h3 (QI (fun v6 h7 => (if v6 = 0 then K (0 : Int32) h7 else (∀ v9 : Int32, v9 = (x3 + 1) → Wp (d + 1) m_Pa_passCases 2 [some (.ref x0), some (.ref x1), some (.int x2), some (.int v9)] [] h7 (QI K)))))) else K (1 : Int32) h3)))) else ((hS h0 x0).1 = 4 ∧ Ca d m_Pa_passCase [.ref x0, .ref x1, .int x2] h0 (QI (fun v11 h12 => (if v11 = 0 then K (0 : Int32) h12 else (∀ v14 : Int32, v14 = (x3 + 1) → Wp (d + 1) m_Pa_passCases 2 [some (.ref x0), some (.ref x1), some (.int x2), some (.int v14)] [] h12 (QI K))))))) else K (0 : Int32) h0)) : Wp (d + 1) m_Pa_passCases 2 [some (.ref x0), some (.ref x1), some (.int x2), some (.int x3)] [] h0 (QI K) := by
  refine V.iload_n d_Pa_passCases_2 rfl ?_
  refine V.bipush (x := 90) d_Pa_passCases_3 (by decide) ?_
  refine V.ic_ge (t := 40) d_Pa_passCases_5 ⟨rfl, rfl⟩ (fun hc => ?_) (fun hc => ?_)
  · replace hq := ifp hc hq
    refine V.iload_n d_Pa_passCases_8 rfl ?_
    refine V.if_le (t := 23) d_Pa_passCases_9 ⟨rfl, rfl⟩ (fun hc => ?_) (fun hc => ?_)
    · replace hq := ifp hc hq
      refine V.aload_n d_Pa_passCases_12 rfl ?_
      refine V.bipush (x := 125) d_Pa_passCases_13 (by decide) ?_
      obtain ⟨g1, hq⟩ := hq
      refine V.callI d_Pa_passCases_15 (cV_call (t := [_]) (rs := []) rfl (Or.inl rfl) rfl (lk1 g1) ⟨leb rfl, leb rfl⟩) hq (fun v2 h3 hq => ?_)
      refine V.if_eq (t := 23) d_Pa_passCases_18 ⟨rfl, rfl⟩ (fun hc => ?_) (fun hc => ?_)
      · replace hq := ifp hc hq
        refine V.aload_n d_Pa_passCases_23 rfl ?_
        refine V.aload_n d_Pa_passCases_24 rfl ?_
        refine V.iload_n d_Pa_passCases_25 rfl ?_
        obtain ⟨g5, hq⟩ := hq
        refine V.callI d_Pa_passCases_26 (cV_call (t := [_, _]) (rs := []) rfl (Or.inl rfl) rfl (lk1 g5) ⟨leb rfl, leb rfl⟩) hq (fun v6 h7 hq => ?_)
        refine V.if_ne (t := 34) d_Pa_passCases_29 ⟨rfl, rfl⟩ (fun hc => ?_) (fun hc => ?_)
        · replace hq := ifp hc hq
          refine V.iconst (x := 0) d_Pa_passCases_32 (by decide) ?_
          refine V.zret (y := (0 : Int32)) d_Pa_passCases_33 rfl (by decide) ?_
          exact V.rI hq
        · replace hq := ifn hc hq
          replace hq := hq _ rfl
          refine V.iinc (l' := [_, _, _, _]) d_Pa_passCases_34 rfl (show _ + _ = _ + (1 : Int32) from rfl) rfl ?_
          refine V.goto (t := 2) d_Pa_passCases_37 ⟨rfl, rfl⟩ ?_
          exact hq
      · replace hq := ifn hc hq
        refine V.iconst (x := 1) d_Pa_passCases_21 (by decide) ?_
        refine V.zret (y := (1 : Int32)) d_Pa_passCases_22 rfl (by decide) ?_
        exact V.rI hq
    · replace hq := ifn hc hq
      refine V.aload_n d_Pa_passCases_23 rfl ?_
      refine V.aload_n d_Pa_passCases_24 rfl ?_
      refine V.iload_n d_Pa_passCases_25 rfl ?_
      obtain ⟨g10, hq⟩ := hq
      refine V.callI d_Pa_passCases_26 (cV_call (t := [_, _]) (rs := []) rfl (Or.inl rfl) rfl (lk1 g10) ⟨leb rfl, leb rfl⟩) hq (fun v11 h12 hq => ?_)
      refine V.if_ne (t := 34) d_Pa_passCases_29 ⟨rfl, rfl⟩ (fun hc => ?_) (fun hc => ?_)
      · replace hq := ifp hc hq
        refine V.iconst (x := 0) d_Pa_passCases_32 (by decide) ?_
        refine V.zret (y := (0 : Int32)) d_Pa_passCases_33 rfl (by decide) ?_
        exact V.rI hq
      · replace hq := ifn hc hq
        replace hq := hq _ rfl
        refine V.iinc (l' := [_, _, _, _]) d_Pa_passCases_34 rfl (show _ + _ = _ + (1 : Int32) from rfl) rfl ?_
        refine V.goto (t := 2) d_Pa_passCases_37 ⟨rfl, rfl⟩ ?_
        exact hq
  · replace hq := ifn hc hq
    refine V.iconst (x := 0) d_Pa_passCases_40 (by decide) ?_
    refine V.zret (y := (0 : Int32)) d_Pa_passCases_41 rfl (by decide) ?_
    exact V.rI hq
theorem w_Pa_passCase {d : Nat} {K : Int32 → Hp → Prop} {x0 : Nat} {x1 : Nat} {x2 : Int32} {h0 : Hp} (hq :
  ((hS h0 x0).1 = 4 ∧ Ca d m_Pa_passFigure [.ref x0] h0 (QI (fun v2 h3 => (if v2 < 0 then K (0 : Int32) h3 else ((hS h3 x0).1 = 4 ∧ Ca d m_Pa_passSign [.ref x0, .int (58 : Int32)] h3 (QI (fun v6 h7 => (if v6 = 0 then K (0 : Int32) h7 else ((hS h7 x1).1 = 2 ∧ ((hS h7 x0).1 = 4 ∧ Ca d m_Pa_passPart [.ref x0, .ref x1, .int (hI h7 x1 2), .int x2] h7 (QR (fun v11 h12 => (if v11 = 0 then K (0 : Int32) h12 else ((hS h12 v11).1 = 2 ∧ (∀ h15 : Hp, h15 = sI h12 v11 3 v2 → ((hS h12 x0).1 = 4 ∧ Ca d m_Pa_passSign [.ref x0, .int (59 : Int32)] h15 (QI (fun v17 h18 => K (v17 &&& 1) h18))))))))))))))))))) : Ca (d + 1) m_Pa_passCase [.ref x0, .ref x1, .int x2] h0 (QI K) := by
  show Wp _ _ 0 [some (.ref x0), some (.ref x1), some (.int x2), none, none] [] h0 _
  refine V.aload_n d_Pa_passCase_0 rfl ?_
  obtain ⟨g1, hq⟩ := hq
  refine V.callI d_Pa_passCase_1 (cV_call (t := []) (rs := []) rfl (Or.inl rfl) rfl (lk1 g1) ⟨leb rfl, leb rfl⟩) hq (fun v2 h3 hq => ?_)
  refine V.istore_n (l' := [_, _, _, _, _]) d_Pa_passCase_4 rfl (ltb rfl) ?_
  refine V.iload_n d_Pa_passCase_5 rfl ?_
  refine V.if_lt (t := 18) d_Pa_passCase_6 ⟨rfl, rfl⟩ (fun hc => ?_) (fun hc => ?_)
  · replace hq := ifp hc hq
    refine V.iconst (x := 0) d_Pa_passCase_18 (by decide) ?_
    refine V.zret (y := (0 : Int32)) d_Pa_passCase_19 rfl (by decide) ?_
    exact V.rI hq
  · replace hq := ifn hc hq
    refine V.aload_n d_Pa_passCase_9 rfl ?_
    refine V.bipush (x := 58) d_Pa_passCase_10 (by decide) ?_
    obtain ⟨g5, hq⟩ := hq
    refine V.callI d_Pa_passCase_12 (cV_call (t := [_]) (rs := []) rfl (Or.inl rfl) rfl (lk1 g5) ⟨leb rfl, leb rfl⟩) hq (fun v6 h7 hq => ?_)
    refine V.if_ne (t := 20) d_Pa_passCase_15 ⟨rfl, rfl⟩ (fun hc => ?_) (fun hc => ?_)
    · replace hq := ifp hc hq
      refine V.iconst (x := 0) d_Pa_passCase_18 (by decide) ?_
      refine V.zret (y := (0 : Int32)) d_Pa_passCase_19 rfl (by decide) ?_
      exact V.rI hq
    · replace hq := ifn hc hq
      refine V.aload_n d_Pa_passCase_20 rfl ?_
      refine V.aload_n d_Pa_passCase_21 rfl ?_
      refine V.aload_n d_Pa_passCase_22 rfl ?_
      obtain ⟨g9, hq⟩ := hq
      refine V.get0 d_Pa_passCase_23 rfl (List.mem_singleton.mpr g9) ?_
      refine V.iload_n d_Pa_passCase_26 rfl ?_
      obtain ⟨g10, hq⟩ := hq
      refine V.callR d_Pa_passCase_27 (cV_call (t := [_, _, _]) (rs := []) rfl (Or.inl rfl) rfl (lk1 g10) ⟨leb rfl, leb rfl⟩) hq (fun v11 h12 hq => ?_)
      refine V.astore (l' := [_, _, _, _, _]) d_Pa_passCase_30 rfl (ltb rfl) ?_
      refine V.aload d_Pa_passCase_32 rfl ?_
      refine V.ifnonnull (t := 39) d_Pa_passCase_34 ⟨rfl, rfl⟩ (fun hc => ?_) (fun hc => ?_)
      · replace hq := ifp hc hq
        refine V.iconst (x := 0) d_Pa_passCase_37 (by decide) ?_
        refine V.zret (y := (0 : Int32)) d_Pa_passCase_38 rfl (by decide) ?_
        exact V.rI hq
      · replace hq := ifn hc hq
        refine V.aload d_Pa_passCase_39 rfl ?_
        refine V.iload_n d_Pa_passCase_41 rfl ?_
        obtain ⟨g14, hq⟩ := hq
        refine V.put0 d_Pa_passCase_42 rfl (Or.inl rfl) (List.mem_singleton.mpr g14) ?_
        replace hq := hq _ rfl
        refine V.aload_n d_Pa_passCase_45 rfl ?_
        refine V.bipush (x := 59) d_Pa_passCase_46 (by decide) ?_
        obtain ⟨g16, hq⟩ := hq
        refine V.callI d_Pa_passCase_48 (cV_call (t := [_]) (rs := []) rfl (Or.inl rfl) rfl (lk1 g16) ⟨leb rfl, leb rfl⟩) hq (fun v17 h18 hq => ?_)
        refine V.zret (y := _) d_Pa_passCase_51 rfl rfl ?_
        exact V.rI hq
theorem w_Pa_passKey {d : Nat} {K : Int32 → Hp → Prop} {x0 : Nat} {x1 : Nat} {h0 : Hp} (hq :
  ((hS h0 x0).1 = 4 ∧ Ca d m_Pa_passName [.ref x0] h0 (QI (fun v2 h3 => ((hS h3 x1).1 = 2 ∧ (∀ h6 : Hp, h6 = sI h3 x1 4 v2 → (if (hI h6 x1 4) = (-1 : Int32) then K (0 : Int32) h6 else K (1 : Int32) h6))))))) : Ca (d + 1) m_Pa_passKey [.ref x0, .ref x1] h0 (QI K) := by
  show Wp _ _ 0 [some (.ref x0), some (.ref x1)] [] h0 _
  refine V.aload_n d_Pa_passKey_0 rfl ?_
  refine V.aload_n d_Pa_passKey_1 rfl ?_
  obtain ⟨g1, hq⟩ := hq
  refine V.callI d_Pa_passKey_2 (cV_call (t := []) (rs := [_]) rfl (Or.inl rfl) rfl (lk1 g1) ⟨leb rfl, leb rfl⟩) hq (fun v2 h3 hq => ?_)
  obtain ⟨g5, hq⟩ := hq
  refine V.put0 d_Pa_passKey_5 rfl (Or.inl rfl) (List.mem_singleton.mpr g5) ?_
  replace hq := hq _ rfl
  refine V.aload_n d_Pa_passKey_8 rfl ?_
  refine V.get0 d_Pa_passKey_9 rfl (List.mem_singleton.mpr g5) ?_
  refine V.iconst (x := -1) d_Pa_passKey_12 (by decide) ?_
  refine V.ic_eq (t := 20) d_Pa_passKey_13 ⟨rfl, rfl⟩ (fun hc => ?_) (fun hc => ?_)
  · replace hq := ifp hc hq
    refine V.iconst (x := 0) d_Pa_passKey_20 (by decide) ?_
    refine V.zret (y := (0 : Int32)) d_Pa_passKey_21 rfl (by decide) ?_
    exact V.rI hq
  · replace hq := ifn hc hq
    refine V.iconst (x := 1) d_Pa_passKey_16 (by decide) ?_
    refine V.goto (t := 21) d_Pa_passKey_17 ⟨rfl, rfl⟩ ?_
    refine V.zret (y := (1 : Int32)) d_Pa_passKey_21 rfl (by decide) ?_
    exact V.rI hq
theorem w_Pa_passWidth {d : Nat} {K : Int32 → Hp → Prop} {x0 : Nat} {x1 : Nat} {x2 : Int32} {h0 : Hp} (hq :
  ((hS h0 x0).1 = 4 ∧ ((hS h0 (hR h0 x0 0)).1 = 0 ∧ Ca d m_By_at [.ref (hR h0 x0 0), .int (hI h0 x0 2)] h0 (QI (fun v3 h4 => (∀ v6 : Int32, v6 = (v3 - (48 : Int32)) → (if v6 < (1 : Int32) then K (0 : Int32) h4 else (if x2 < v6 then K (0 : Int32) h4 else ((hS h4 x0).1 = 4 ∧ (∀ h8 : Hp, h8 = sI h4 x0 2 ((hI h4 x0 2) + (1 : Int32)) → ((hS h4 x1).1 = 2 ∧ Ca d m_No_widenTo [.ref x1, .int v6] h8 (QV (fun h10 => K (1 : Int32) h10))))))))))))) : Ca (d + 1) m_Pa_passWidth [.ref x0, .ref x1, .int x2] h0 (QI K) := by
  show Wp _ _ 0 [some (.ref x0), some (.ref x1), some (.int x2), none] [] h0 _
  refine V.aload_n d_Pa_passWidth_0 rfl ?_
  obtain ⟨g1, hq⟩ := hq
  refine V.get2 d_Pa_passWidth_1 rfl (List.mem_singleton.mpr g1) ?_
  refine V.aload_n d_Pa_passWidth_4 rfl ?_
  refine V.get0 d_Pa_passWidth_5 rfl (List.mem_singleton.mpr g1) ?_
  obtain ⟨g2, hq⟩ := hq
  refine V.callI d_Pa_passWidth_8 (cV_call (t := [_]) (rs := []) rfl (Or.inl rfl) rfl (lk1 g2) ⟨leb rfl, leb rfl⟩) hq (fun v3 h4 hq => ?_)
  refine V.bipush (x := 48) d_Pa_passWidth_11 (by decide) ?_
  refine V.isub d_Pa_passWidth_13 ?_
  replace hq := hq _ rfl
  refine V.istore_n (l' := [_, _, _, _]) d_Pa_passWidth_14 rfl (ltb rfl) ?_
  refine V.iload_n d_Pa_passWidth_15 rfl ?_
  refine V.iconst (x := 1) d_Pa_passWidth_16 (by decide) ?_
  refine V.ic_lt (t := 25) d_Pa_passWidth_17 ⟨rfl, rfl⟩ (fun hc => ?_) (fun hc => ?_)
  · replace hq := ifp hc hq
    refine V.iconst (x := 0) d_Pa_passWidth_25 (by decide) ?_
    refine V.zret (y := (0 : Int32)) d_Pa_passWidth_26 rfl (by decide) ?_
    exact V.rI hq
  · replace hq := ifn hc hq
    refine V.iload_n d_Pa_passWidth_20 rfl ?_
    refine V.iload_n d_Pa_passWidth_21 rfl ?_
    refine V.ic_le (t := 27) d_Pa_passWidth_22 ⟨rfl, rfl⟩ (fun hc => ?_) (fun hc => ?_)
    · replace hq := ifp hc hq
      refine V.iconst (x := 0) d_Pa_passWidth_25 (by decide) ?_
      refine V.zret (y := (0 : Int32)) d_Pa_passWidth_26 rfl (by decide) ?_
      exact V.rI hq
    · replace hq := ifn hc hq
      refine V.aload_n d_Pa_passWidth_27 rfl ?_
      refine V.dupR d_Pa_passWidth_28 ?_
      obtain ⟨g7, hq⟩ := hq
      refine V.get0 d_Pa_passWidth_29 rfl (List.mem_singleton.mpr g7) ?_
      refine V.iconst (x := 1) d_Pa_passWidth_32 (by decide) ?_
      refine V.iadd d_Pa_passWidth_33 ?_
      refine V.put0 d_Pa_passWidth_34 rfl (Or.inl rfl) (List.mem_singleton.mpr g7) ?_
      replace hq := hq _ rfl
      refine V.aload_n d_Pa_passWidth_37 rfl ?_
      refine V.iload_n d_Pa_passWidth_38 rfl ?_
      obtain ⟨g9, hq⟩ := hq
      refine V.callV d_Pa_passWidth_39 (cV_call (t := [_]) (rs := []) rfl (Or.inl rfl) rfl (lk1 g9) ⟨leb rfl, leb rfl⟩) hq (fun h10 hq => ?_)
      refine V.iconst (x := 1) d_Pa_passWidth_42 (by decide) ?_
      refine V.zret (y := (1 : Int32)) d_Pa_passWidth_43 rfl (by decide) ?_
      exact V.rI hq
theorem w_Pa_passLimit {d : Nat} {K : Int32 → Hp → Prop} {x0 : Nat} {x1 : Nat} {h0 : Hp} (hq :
  ((hS h0 x0).1 = 4 ∧ ((hS h0 (hR h0 x0 0)).1 = 0 ∧ Ca d m_By_at [.ref (hR h0 x0 0), .int (hI h0 x0 2)] h0 (QI (fun v3 h4 => (if v3 = (60 : Int32) then Wp (d + 1) m_Pa_passLimit 32 [some (.ref x0), some (.ref x1), some (.int v3), none] [] h4 (QI K) else (if v3 = (62 : Int32) then Wp (d + 1) m_Pa_passLimit 32 [some (.ref x0), some (.ref x1), some (.int v3), none] [] h4 (QI K) else (if v3 = (61 : Int32) then Wp (d + 1) m_Pa_passLimit 32 [some (.ref x0), some (.ref x1), some (.int v3), none] [] h4 (QI K) else K (1 : Int32) h4)))))))) : Ca (d + 1) m_Pa_passLimit [.ref x0, .ref x1] h0 (QI K) := by
  show Wp _ _ 0 [some (.ref x0), some (.ref x1), none, none] [] h0 _
  refine V.aload_n d_Pa_passLimit_0 rfl ?_
  obtain ⟨g1, hq⟩ := hq
  refine V.get2 d_Pa_passLimit_1 rfl (List.mem_singleton.mpr g1) ?_
  refine V.aload_n d_Pa_passLimit_4 rfl ?_
  refine V.get0 d_Pa_passLimit_5 rfl (List.mem_singleton.mpr g1) ?_
  obtain ⟨g2, hq⟩ := hq
  refine V.callI d_Pa_passLimit_8 (cV_call (t := [_]) (rs := []) rfl (Or.inl rfl) rfl (lk1 g2) ⟨leb rfl, leb rfl⟩) hq (fun v3 h4 hq => ?_)
  refine V.istore_n (l' := [_, _, _, _]) d_Pa_passLimit_11 rfl (ltb rfl) ?_
  refine V.iload_n d_Pa_passLimit_12 rfl ?_
  refine V.bipush (x := 60) d_Pa_passLimit_13 (by decide) ?_
  refine V.ic_eq (t := 32) d_Pa_passLimit_15 ⟨rfl, rfl⟩ (fun hc => ?_) (fun hc => ?_)
  · replace hq := ifp hc hq
    exact hq
  · replace hq := ifn hc hq
    refine V.iload_n d_Pa_passLimit_18 rfl ?_
    refine V.bipush (x := 62) d_Pa_passLimit_19 (by decide) ?_
    refine V.ic_eq (t := 32) d_Pa_passLimit_21 ⟨rfl, rfl⟩ (fun hc => ?_) (fun hc => ?_)
    · replace hq := ifp hc hq
      exact hq
    · replace hq := ifn hc hq
      refine V.iload_n d_Pa_passLimit_24 rfl ?_
      refine V.bipush (x := 61) d_Pa_passLimit_25 (by decide) ?_
      refine V.ic_eq (t := 32) d_Pa_passLimit_27 ⟨rfl, rfl⟩ (fun hc => ?_) (fun hc => ?_)
      · replace hq := ifp hc hq
        exact hq
      · replace hq := ifn hc hq
        refine V.iconst (x := 1) d_Pa_passLimit_30 (by decide) ?_
        refine V.zret (y := (1 : Int32)) d_Pa_passLimit_31 rfl (by decide) ?_
        exact V.rI hq
theorem w_Pa_passLimit_32 {d : Nat} {K : Int32 → Hp → Prop} {x0 : Nat} {x1 : Nat} {x2 : Int32} {y3 : Option Value} {h0 : Hp} (hq :
  ((hS h0 x0).1 = 4 ∧ (∀ h7 : Hp, h7 = sI h0 x0 2 ((hI h0 x0 2) + (1 : Int32)) → Ca d m_Pa_passFigure [.ref x0] h7 (QI (fun v8 h9 => (if v8 < 0 then K (0 : Int32) h9 else ((hS h9 x1).1 = 2 ∧ Ca d m_No_limitTo [.ref x1, .int x2, .int v8] h9 (QV (fun h12 => K (1 : Int32) h12))))))))) : Wp (d + 1) m_Pa_passLimit 32 [some (.ref x0), some (.ref x1), some (.int x2), y3] [] h0 (QI K) := by
  refine V.aload_n d_Pa_passLimit_32 rfl ?_
  refine V.dupR d_Pa_passLimit_33 ?_
  obtain ⟨g6, hq⟩ := hq
  refine V.get0 d_Pa_passLimit_34 rfl (List.mem_singleton.mpr g6) ?_
  refine V.iconst (x := 1) d_Pa_passLimit_37 (by decide) ?_
  refine V.iadd d_Pa_passLimit_38 ?_
  refine V.put0 d_Pa_passLimit_39 rfl (Or.inl rfl) (List.mem_singleton.mpr g6) ?_
  replace hq := hq _ rfl
  refine V.aload_n d_Pa_passLimit_42 rfl ?_
  refine V.callI d_Pa_passLimit_43 (cV_call (t := []) (rs := []) rfl (Or.inl rfl) rfl (lk1 g6) ⟨leb rfl, leb rfl⟩) hq (fun v8 h9 hq => ?_)
  refine V.istore_n (l' := [_, _, _, _]) d_Pa_passLimit_46 rfl (ltb rfl) ?_
  refine V.iload_n d_Pa_passLimit_47 rfl ?_
  refine V.if_ge (t := 53) d_Pa_passLimit_48 ⟨rfl, rfl⟩ (fun hc => ?_) (fun hc => ?_)
  · replace hq := ifp hc hq
    refine V.iconst (x := 0) d_Pa_passLimit_51 (by decide) ?_
    refine V.zret (y := (0 : Int32)) d_Pa_passLimit_52 rfl (by decide) ?_
    exact V.rI hq
  · replace hq := ifn hc hq
    refine V.aload_n d_Pa_passLimit_53 rfl ?_
    refine V.iload_n d_Pa_passLimit_54 rfl ?_
    refine V.iload_n d_Pa_passLimit_55 rfl ?_
    obtain ⟨g11, hq⟩ := hq
    refine V.callV d_Pa_passLimit_56 (cV_call (t := [_, _]) (rs := []) rfl (Or.inl rfl) rfl (lk1 g11) ⟨leb rfl, leb rfl⟩) hq (fun h12 hq => ?_)
    refine V.iconst (x := 1) d_Pa_passLimit_59 (by decide) ?_
    refine V.zret (y := (1 : Int32)) d_Pa_passLimit_60 rfl (by decide) ?_
    exact V.rI hq
theorem w_Pa_passFigure {d : Nat} {K : Int32 → Hp → Prop} {x0 : Nat} {h0 : Hp} (hq :
  Wp (d + 1) m_Pa_passFigure 4 [some (.ref x0), some (.int (-1 : Int32)), some (.int (0 : Int32)), none] [] h0 (QI K)) : Ca (d + 1) m_Pa_passFigure [.ref x0] h0 (QI K) := by
  show Wp _ _ 0 [some (.ref x0), none, none, none] [] h0 _
  refine V.iconst (x := -1) d_Pa_passFigure_0 (by decide) ?_
  refine V.istore_n (l' := [_, _, _, _]) d_Pa_passFigure_1 rfl (ltb rfl) ?_
  refine V.iconst (x := 0) d_Pa_passFigure_2 (by decide) ?_
  refine V.istore_n (l' := [_, _, _, _]) d_Pa_passFigure_3 rfl (ltb rfl) ?_
  exact hq
theorem w_Pa_passFigure_4 {d : Nat} {K : Int32 → Hp → Prop} {x0 : Nat} {x1 : Int32} {x2 : Int32} {y3 : Option Value} {h0 : Hp} (hq :
  (if x2 < (3 : Int32) then ((hS h0 x0).1 = 4 ∧ ((hS h0 (hR h0 x0 0)).1 = 0 ∧ Ca d m_By_at [.ref (hR h0 x0 0), .int (hI h0 x0 2)] h0 (QI (fun v3 h4 => (∀ v6 : Int32, v6 = (v3 - (48 : Int32)) → (if v6 < 0 then K x1 h4 else (if (9 : Int32) < v6 then K x1 h4 else ((hS h4 x0).1 = 4 ∧ (∀ h8 : Hp, h8 = sI h4 x0 2 ((hI h4 x0 2) + (1 : Int32)) → (∀ v9 : Int32, v9 = (((if x1 < (0 : Int32) then (0 : Int32) else x1) * (10 : Int32)) + v6) → (∀ v10 : Int32, v10 = (x2 + 1) → Wp (d + 1) m_Pa_passFigure 4 [some (.ref x0), some (.int v9), some (.int v10), some (.int v6)] [] h8 (QI K)))))))))))) else K x1 h0)) : Wp (d + 1) m_Pa_passFigure 4 [some (.ref x0), some (.int x1), some (.int x2), y3] [] h0 (QI K) := by
  refine V.iload_n d_Pa_passFigure_4 rfl ?_
  refine V.iconst (x := 3) d_Pa_passFigure_5 (by decide) ?_
  refine V.ic_ge (t := 63) d_Pa_passFigure_6 ⟨rfl, rfl⟩ (fun hc => ?_) (fun hc => ?_)
  · replace hq := ifp hc hq
    refine V.aload_n d_Pa_passFigure_9 rfl ?_
    obtain ⟨g1, hq⟩ := hq
    refine V.get2 d_Pa_passFigure_10 rfl (List.mem_singleton.mpr g1) ?_
    refine V.aload_n d_Pa_passFigure_13 rfl ?_
    refine V.get0 d_Pa_passFigure_14 rfl (List.mem_singleton.mpr g1) ?_
    obtain ⟨g2, hq⟩ := hq
    refine V.callI d_Pa_passFigure_17 (cV_call (t := [_]) (rs := []) rfl (Or.inl rfl) rfl (lk1 g2) ⟨leb rfl, leb rfl⟩) hq (fun v3 h4 hq => ?_)
    refine V.bipush (x := 48) d_Pa_passFigure_20 (by decide) ?_
    refine V.isub d_Pa_passFigure_22 ?_
    replace hq := hq _ rfl
    refine V.istore_n (l' := [_, _, _, _]) d_Pa_passFigure_23 rfl (ltb rfl) ?_
    refine V.iload_n d_Pa_passFigure_24 rfl ?_
    refine V.if_lt (t := 34) d_Pa_passFigure_25 ⟨rfl, rfl⟩ (fun hc => ?_) (fun hc => ?_)
    · replace hq := ifp hc hq
      refine V.iload_n d_Pa_passFigure_34 rfl ?_
      refine V.iret d_Pa_passFigure_35 rfl ?_
      exact V.rI hq
    · replace hq := ifn hc hq
      refine V.iload_n d_Pa_passFigure_28 rfl ?_
      refine V.bipush (x := 9) d_Pa_passFigure_29 (by decide) ?_
      refine V.ic_le (t := 36) d_Pa_passFigure_31 ⟨rfl, rfl⟩ (fun hc => ?_) (fun hc => ?_)
      · replace hq := ifp hc hq
        refine V.iload_n d_Pa_passFigure_34 rfl ?_
        refine V.iret d_Pa_passFigure_35 rfl ?_
        exact V.rI hq
      · replace hq := ifn hc hq
        refine V.aload_n d_Pa_passFigure_36 rfl ?_
        refine V.dupR d_Pa_passFigure_37 ?_
        obtain ⟨g7, hq⟩ := hq
        refine V.get0 d_Pa_passFigure_38 rfl (List.mem_singleton.mpr g7) ?_
        refine V.iconst (x := 1) d_Pa_passFigure_41 (by decide) ?_
        refine V.iadd d_Pa_passFigure_42 ?_
        refine V.put0 d_Pa_passFigure_43 rfl (Or.inl rfl) (List.mem_singleton.mpr g7) ?_
        replace hq := hq _ rfl
        refine V.iload_n d_Pa_passFigure_46 rfl ?_
        refine V.iconst (x := 0) d_Pa_passFigure_47 (by decide) ?_
        refine V.maxI d_Pa_passFigure_48 rfl (leb rfl) ?_
        refine V.bipush (x := 10) d_Pa_passFigure_51 (by decide) ?_
        refine V.imul d_Pa_passFigure_53 ?_
        refine V.iload_n d_Pa_passFigure_54 rfl ?_
        refine V.iadd d_Pa_passFigure_55 ?_
        replace hq := hq _ rfl
        refine V.istore_n (l' := [_, _, _, _]) d_Pa_passFigure_56 rfl (ltb rfl) ?_
        replace hq := hq _ rfl
        refine V.iinc (l' := [_, _, _, _]) d_Pa_passFigure_57 rfl (show _ + _ = _ + (1 : Int32) from rfl) rfl ?_
        refine V.goto (t := 4) d_Pa_passFigure_60 ⟨rfl, rfl⟩ ?_
        exact hq
  · replace hq := ifn hc hq
    refine V.iload_n d_Pa_passFigure_63 rfl ?_
    refine V.iret d_Pa_passFigure_64 rfl ?_
    exact V.rI hq
theorem w_Pa_passName {d : Nat} {K : Int32 → Hp → Prop} {x0 : Nat} {h0 : Hp} (hq :
  ((hS h0 x0).1 = 4 ∧ ((hS h0 (hR h0 x0 0)).1 = 0 ∧ Ca d m_By_at [.ref (hR h0 x0 0), .int (hI h0 x0 2)] h0 (QI (fun v3 h4 => (if v3 < (97 : Int32) then K (-1 : Int32) h4 else (if (108 : Int32) < v3 then K (-1 : Int32) h4 else ((hS h4 x0).1 = 4 ∧ (∀ h7 : Hp, h7 = sI h4 x0 2 ((hI h4 x0 2) + (1 : Int32)) → K (v3 - (97 : Int32)) h7))))))))) : Ca (d + 1) m_Pa_passName [.ref x0] h0 (QI K) := by
  show Wp _ _ 0 [some (.ref x0), none] [] h0 _
  refine V.aload_n d_Pa_passName_0 rfl ?_
  obtain ⟨g1, hq⟩ := hq
  refine V.get2 d_Pa_passName_1 rfl (List.mem_singleton.mpr g1) ?_
  refine V.aload_n d_Pa_passName_4 rfl ?_
  refine V.get0 d_Pa_passName_5 rfl (List.mem_singleton.mpr g1) ?_
  obtain ⟨g2, hq⟩ := hq
  refine V.callI d_Pa_passName_8 (cV_call (t := [_]) (rs := []) rfl (Or.inl rfl) rfl (lk1 g2) ⟨leb rfl, leb rfl⟩) hq (fun v3 h4 hq => ?_)
  refine V.istore_n (l' := [_, _]) d_Pa_passName_11 rfl (ltb rfl) ?_
  refine V.iload_n d_Pa_passName_12 rfl ?_
  refine V.bipush (x := 97) d_Pa_passName_13 (by decide) ?_
  refine V.ic_lt (t := 24) d_Pa_passName_15 ⟨rfl, rfl⟩ (fun hc => ?_) (fun hc => ?_)
  · replace hq := ifp hc hq
    refine V.iconst (x := -1) d_Pa_passName_24 (by decide) ?_
    refine V.iret d_Pa_passName_25 rfl ?_
    exact V.rI hq
  · replace hq := ifn hc hq
    refine V.iload_n d_Pa_passName_18 rfl ?_
    refine V.bipush (x := 108) d_Pa_passName_19 (by decide) ?_
    refine V.ic_le (t := 26) d_Pa_passName_21 ⟨rfl, rfl⟩ (fun hc => ?_) (fun hc => ?_)
    · replace hq := ifp hc hq
      refine V.iconst (x := -1) d_Pa_passName_24 (by decide) ?_
      refine V.iret d_Pa_passName_25 rfl ?_
      exact V.rI hq
    · replace hq := ifn hc hq
      refine V.aload_n d_Pa_passName_26 rfl ?_
      refine V.dupR d_Pa_passName_27 ?_
      obtain ⟨g6, hq⟩ := hq
      refine V.get0 d_Pa_passName_28 rfl (List.mem_singleton.mpr g6) ?_
      refine V.iconst (x := 1) d_Pa_passName_31 (by decide) ?_
      refine V.iadd d_Pa_passName_32 ?_
      refine V.put0 d_Pa_passName_33 rfl (Or.inl rfl) (List.mem_singleton.mpr g6) ?_
      replace hq := hq _ rfl
      refine V.iload_n d_Pa_passName_36 rfl ?_
      refine V.bipush (x := 97) d_Pa_passName_37 (by decide) ?_
      refine V.isub d_Pa_passName_39 ?_
      refine V.iret d_Pa_passName_40 rfl ?_
      exact V.rI hq
theorem w_Pa_passSign {d : Nat} {K : Int32 → Hp → Prop} {x0 : Nat} {x1 : Int32} {h0 : Hp} (hq :
  ((hS h0 x0).1 = 4 ∧ ((hS h0 (hR h0 x0 0)).1 = 0 ∧ Ca d m_By_at [.ref (hR h0 x0 0), .int (hI h0 x0 2)] h0 (QI (fun v3 h4 => (if v3 = x1 then ((hS h4 x0).1 = 4 ∧ (∀ h7 : Hp, h7 = sI h4 x0 2 ((hI h4 x0 2) + (1 : Int32)) → K (1 : Int32) h7)) else K (0 : Int32) h4)))))) : Ca (d + 1) m_Pa_passSign [.ref x0, .int x1] h0 (QI K) := by
  show Wp _ _ 0 [some (.ref x0), some (.int x1)] [] h0 _
  refine V.aload_n d_Pa_passSign_0 rfl ?_
  obtain ⟨g1, hq⟩ := hq
  refine V.get2 d_Pa_passSign_1 rfl (List.mem_singleton.mpr g1) ?_
  refine V.aload_n d_Pa_passSign_4 rfl ?_
  refine V.get0 d_Pa_passSign_5 rfl (List.mem_singleton.mpr g1) ?_
  obtain ⟨g2, hq⟩ := hq
  refine V.callI d_Pa_passSign_8 (cV_call (t := [_]) (rs := []) rfl (Or.inl rfl) rfl (lk1 g2) ⟨leb rfl, leb rfl⟩) hq (fun v3 h4 hq => ?_)
  refine V.iload_n d_Pa_passSign_11 rfl ?_
  refine V.ic_eq (t := 17) d_Pa_passSign_12 ⟨rfl, rfl⟩ (fun hc => ?_) (fun hc => ?_)
  · replace hq := ifp hc hq
    refine V.aload_n d_Pa_passSign_17 rfl ?_
    refine V.dupR d_Pa_passSign_18 ?_
    obtain ⟨g6, hq⟩ := hq
    refine V.get0 d_Pa_passSign_19 rfl (List.mem_singleton.mpr g6) ?_
    refine V.iconst (x := 1) d_Pa_passSign_22 (by decide) ?_
    refine V.iadd d_Pa_passSign_23 ?_
    refine V.put0 d_Pa_passSign_24 rfl (Or.inl rfl) (List.mem_singleton.mpr g6) ?_
    replace hq := hq _ rfl
    refine V.iconst (x := 1) d_Pa_passSign_27 (by decide) ?_
    refine V.zret (y := (1 : Int32)) d_Pa_passSign_28 rfl (by decide) ?_
    exact V.rI hq
  · replace hq := ifn hc hq
    refine V.iconst (x := 0) d_Pa_passSign_15 (by decide) ?_
    refine V.zret (y := (0 : Int32)) d_Pa_passSign_16 rfl (by decide) ?_
    exact V.rI hq
