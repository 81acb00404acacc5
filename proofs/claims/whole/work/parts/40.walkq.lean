theorem w_Mo_writeWords {d : Nat} {K : Hp → Prop} {x0 : Nat} {x1 : Int32} {h0 : Hp} (hq :
  ((hS h0 x0).1 = 8 ∧ Ca d m_Mo_take [.ref x0] h0 (QL (fun v2 h3 => (if v2 < (0 : Int64) then ((hS h3 x0).1 = 8 ∧ Ca d m_Mo_wrong [.ref x0, .int (1 : Int32)] h3 (QV (fun h6 => Wp (d + 1) m_Mo_writeWords 41 [some (.ref x0), some (.int x1), some (.long v2), none, some (.int (0 : Int32)), none, none] [] h6 (QV K)))) else (if x1 = 0 then (if (120 : Int64) < v2 then ((hS h3 x0).1 = 8 ∧ Ca d m_Mo_wrong [.ref x0, .int (1 : Int32)] h3 (QV (fun h9 => Wp (d + 1) m_Mo_writeWords 41 [some (.ref x0), some (.int x1), some (.long v2), none, some (.int (0 : Int32)), none, none] [] h9 (QV K)))) else ((hS h3 x0).1 = 8 ∧ Ca d m_Mo_wrong [.ref x0, .int (0 : Int32)] h3 (QV (fun h12 => Wp (d + 1) m_Mo_writeWords 41 [some (.ref x0), some (.int x1), some (.long v2), none, some (.int (0 : Int32)), none, none] [] h12 (QV K))))) else (if (20 : Int64) < v2 then ((hS h3 x0).1 = 8 ∧ Ca d m_Mo_wrong [.ref x0, .int (1 : Int32)] h3 (QV (fun h15 => Wp (d + 1) m_Mo_writeWords 41 [some (.ref x0), some (.int x1), some (.long v2), none, some (.int (0 : Int32)), none, none] [] h15 (QV K)))) else ((hS h3 x0).1 = 8 ∧ Ca d m_Mo_wrong [.ref x0, .int (0 : Int32)] h3 (QV (fun h18 => Wp (d + 1) m_Mo_writeWords 41 [some (.ref x0), some (.int x1), some (.long v2), none, some (.int (0 : Int32)), none, none] [] h18 (QV K))))))))))) : Ca (d + 1) m_Mo_writeWords [.ref x0, .int x1] h0 (QV K) := by
  show Wp _ _ 0 [some (.ref x0), some (.int x1), none, none, none, none, none] [] h0 _
  refine V.aload_n d_Mo_writeWords_0 rfl ?_
  obtain ⟨g1, hq⟩ := hq
  refine V.callL d_Mo_writeWords_1 (cV_call (t := []) (rs := []) rfl (Or.inl rfl) rfl (lk1 g1) ⟨leb rfl, leb rfl⟩) hq (fun v2 h3 hq => ?_)
  refine V.lstore_n (l' := [_, _, _, _, _, _, _]) d_Mo_writeWords_4 rfl (ltb rfl) ?_
  refine V.aload_n d_Mo_writeWords_5 rfl ?_
  refine V.lload_n d_Mo_writeWords_6 rfl ?_
  refine V.lconst (x := 0) d_Mo_writeWords_7 (by decide) ?_
  refine V.lc_lt d_Mo_writeWords_8 d_Mo_writeWords_9 ⟨rfl, rfl⟩ (fun hc => ?_) (fun hc => ?_)
  · replace hq := ifp hc hq
    refine V.iconst (x := 1) d_Mo_writeWords_30 (by decide) ?_
    refine V.goto (t := 35) d_Mo_writeWords_31 ⟨rfl, rfl⟩ ?_
    obtain ⟨g5, hq⟩ := hq
    refine V.callV d_Mo_writeWords_35 (cV_call (t := [_]) (rs := []) rfl (Or.inl rfl) rfl (lk1 g5) ⟨leb rfl, leb rfl⟩) hq (fun h6 hq => ?_)
    refine V.iconst (x := 0) d_Mo_writeWords_38 (by decide) ?_
    refine V.istore (l' := [_, _, _, _, _, _, _]) d_Mo_writeWords_39 rfl (ltb rfl) ?_
    exact hq
  · replace hq := ifn hc hq
    refine V.lload_n d_Mo_writeWords_12 rfl ?_
    refine V.iload_n d_Mo_writeWords_13 rfl ?_
    refine V.if_eq (t := 23) d_Mo_writeWords_14 ⟨rfl, rfl⟩ (fun hc => ?_) (fun hc => ?_)
    · replace hq := ifp hc hq
      refine V.ldc2_w d_Mo_writeWords_23 rfl ?_
      refine V.lc_le d_Mo_writeWords_26 d_Mo_writeWords_27 ⟨rfl, rfl⟩ (fun hc => ?_) (fun hc => ?_)
      · replace hq := ifp hc hq
        refine V.iconst (x := 1) d_Mo_writeWords_30 (by decide) ?_
        refine V.goto (t := 35) d_Mo_writeWords_31 ⟨rfl, rfl⟩ ?_
        obtain ⟨g8, hq⟩ := hq
        refine V.callV d_Mo_writeWords_35 (cV_call (t := [_]) (rs := []) rfl (Or.inl rfl) rfl (lk1 g8) ⟨leb rfl, leb rfl⟩) hq (fun h9 hq => ?_)
        refine V.iconst (x := 0) d_Mo_writeWords_38 (by decide) ?_
        refine V.istore (l' := [_, _, _, _, _, _, _]) d_Mo_writeWords_39 rfl (ltb rfl) ?_
        exact hq
      · replace hq := ifn hc hq
        refine V.iconst (x := 0) d_Mo_writeWords_34 (by decide) ?_
        obtain ⟨g11, hq⟩ := hq
        refine V.callV d_Mo_writeWords_35 (cV_call (t := [_]) (rs := []) rfl (Or.inl rfl) rfl (lk1 g11) ⟨leb rfl, leb rfl⟩) hq (fun h12 hq => ?_)
        refine V.iconst (x := 0) d_Mo_writeWords_38 (by decide) ?_
        refine V.istore (l' := [_, _, _, _, _, _, _]) d_Mo_writeWords_39 rfl (ltb rfl) ?_
        exact hq
    · replace hq := ifn hc hq
      refine V.ldc2_w d_Mo_writeWords_17 rfl ?_
      refine V.goto (t := 26) d_Mo_writeWords_20 ⟨rfl, rfl⟩ ?_
      refine V.lc_le d_Mo_writeWords_26 d_Mo_writeWords_27 ⟨rfl, rfl⟩ (fun hc => ?_) (fun hc => ?_)
      · replace hq := ifp hc hq
        refine V.iconst (x := 1) d_Mo_writeWords_30 (by decide) ?_
        refine V.goto (t := 35) d_Mo_writeWords_31 ⟨rfl, rfl⟩ ?_
        obtain ⟨g14, hq⟩ := hq
        refine V.callV d_Mo_writeWords_35 (cV_call (t := [_]) (rs := []) rfl (Or.inl rfl) rfl (lk1 g14) ⟨leb rfl, leb rfl⟩) hq (fun h15 hq => ?_)
        refine V.iconst (x := 0) d_Mo_writeWords_38 (by decide) ?_
        refine V.istore (l' := [_, _, _, _, _, _, _]) d_Mo_writeWords_39 rfl (ltb rfl) ?_
        exact hq
      · replace hq := ifn hc hq
        refine V.iconst (x := 0) d_Mo_writeWords_34 (by decide) ?_
        obtain ⟨g17, hq⟩ := hq
        refine V.callV d_Mo_writeWords_35 (cV_call (t := [_]) (rs := []) rfl (Or.inl rfl) rfl (lk1 g17) ⟨leb rfl, leb rfl⟩) hq (fun h18 hq => ?_)
        refine V.iconst (x := 0) d_Mo_writeWords_38 (by decide) ?_
        refine V.istore (l' := [_, _, _, _, _, _, _]) d_Mo_writeWords_39 rfl (ltb rfl) ?_
        exact hq
set_option maxRecDepth 100000 in
theorem w_Mo_writeWords_41 {d : Nat} {K : Hp → Prop} {x0 : Nat} {x1 : Int32} {x2 : Int64} {x4 : Int32} {y5 : Option Value} {y6 : Option Value} {h0 : Hp} (hq :
  ((hS h0 x0).1 = 8 ∧ (if (hI h0 x0 41) = 0 then (if (x4.toInt64) < x2 then Ca d m_Mo_take [.ref x0] h0 (QL (fun v21 h22 => (if x1 = 0 then (if v21 < (0 : Int64) then ((hS h22 x0).1 = 8 ∧ Ca d m_Mo_wrong [.ref x0, .int (1 : Int32)] h22 (QV (fun h25 => ((hS h25 x0).1 = 8 ∧ Ca d m_Mo_putByte [.ref x0, .int (v21.toInt32)] h25 (QV (fun h28 => (∀ v30 : Int32, v30 = (x4 + 1) → Wp (d + 1) m_Mo_writeWords 41 [some (.ref x0), some (.int x1), some (.long x2), none, some (.int v30), some (.long v21), none] [] h28 (QV K)))))))) else (if (255 : Int64) < v21 then ((hS h22 x0).1 = 8 ∧ Ca d m_Mo_wrong [.ref x0, .int (1 : Int32)] h22 (QV (fun h32 => ((hS h32 x0).1 = 8 ∧ Ca d m_Mo_putByte [.ref x0, .int (v21.toInt32)] h32 (QV (fun h35 => (∀ v37 : Int32, v37 = (x4 + 1) → Wp (d + 1) m_Mo_writeWords 41 [some (.ref x0), some (.int x1), some (.long x2), none, some (.int v37), some (.long v21), none] [] h35 (QV K)))))))) else ((hS h22 x0).1 = 8 ∧ Ca d m_Mo_wrong [.ref x0, .int (0 : Int32)] h22 (QV (fun h39 => ((hS h39 x0).1 = 8 ∧ Ca d m_Mo_putByte [.ref x0, .int (v21.toInt32)] h39 (QV (fun h42 => (∀ v44 : Int32, v44 = (x4 + 1) → Wp (d + 1) m_Mo_writeWords 41 [some (.ref x0), some (.int x1), some (.long x2), none, some (.int v44), some (.long v21), none] [] h42 (QV K)))))))))) else (if v21 < (1 : Int64) then ((hS h22 x0).1 = 8 ∧ Ca d m_Mo_wrong [.ref x0, .int (1 : Int32)] h22 (QV (fun h46 => ((hS h46 x0).1 = 8 ∧ Ca d m_Mo_putByte [.ref x0, .int (v21.toInt32)] h46 (QV (fun h49 => (∀ v51 : Int32, v51 = (x4 + 1) → Wp (d + 1) m_Mo_writeWords 41 [some (.ref x0), some (.int x1), some (.long x2), none, some (.int v51), some (.long v21), none] [] h49 (QV K)))))))) else (if (255 : Int64) < v21 then ((hS h22 x0).1 = 8 ∧ Ca d m_Mo_wrong [.ref x0, .int (1 : Int32)] h22 (QV (fun h53 => ((hS h53 x0).1 = 8 ∧ Ca d m_Mo_putByte [.ref x0, .int (v21.toInt32)] h53 (QV (fun h56 => (∀ v58 : Int32, v58 = (x4 + 1) → Wp (d + 1) m_Mo_writeWords 41 [some (.ref x0), some (.int x1), some (.long x2), none, some (.int v58), some (.long v21), none] [] h56 (QV K)))))))) else ((hS h22 x0).1 = 8 ∧ Ca d m_Mo_wrong [.ref x0, .int (0 : Int32)] h22 (QV (fun h60 => ((hS h60 x0).1 = 8 ∧ Ca d m_Mo_putByte [.ref x0, .int (v21.toInt32)] h60 (QV (fun h63 => (∀ v65 : Int32, v65 = (x4 + 1) → Wp (d + 1) m_Mo_writeWords 41 [some (.ref x0), some (.int x1), some (.long x2), none, some (.int v65), some (.long v21), none] [] h63 (QV K))))))))))))) else (if x1 = 0 then K h0 else Ca d m_Mo_putByte [.ref x0, .int (0 : Int32)] h0 (QV (fun h66 => K h66)))) else (if x1 = 0 then K h0 else Ca d m_Mo_putByte [.ref x0, .int (0 : Int32)] h0 (QV (fun h68 => K h68)))))) : Wp (d + 1) m_Mo_writeWords 41 [some (.ref x0), some (.int x1), some (.long x2), none, some (.int x4), y5, y6] [] h0 (QV K) := by
  refine V.aload_n d_Mo_writeWords_41 rfl ?_
  obtain ⟨g20, hq⟩ := hq
  refine V.get0 d_Mo_writeWords_42 rfl (List.mem_singleton.mpr g20) ?_
  refine V.if_ne (t := 108) d_Mo_writeWords_45 ⟨rfl, rfl⟩ (fun hc => ?_) (fun hc => ?_)
  · replace hq := ifp hc hq
    refine V.iload d_Mo_writeWords_48 rfl ?_
    refine V.i2l d_Mo_writeWords_50 ?_
    refine V.lload_n d_Mo_writeWords_51 rfl ?_
    refine V.lc_ge d_Mo_writeWords_52 d_Mo_writeWords_53 ⟨rfl, rfl⟩ (fun hc => ?_) (fun hc => ?_)
    · replace hq := ifp hc hq
      refine V.aload_n d_Mo_writeWords_56 rfl ?_
      refine V.callL d_Mo_writeWords_57 (cV_call (t := []) (rs := []) rfl (Or.inl rfl) rfl (lk1 g20) ⟨leb rfl, leb rfl⟩) hq (fun v21 h22 hq => ?_)
      refine V.lstore (l' := [_, _, _, _, _, _, _]) d_Mo_writeWords_60 rfl (ltb rfl) ?_
      refine V.aload_n d_Mo_writeWords_62 rfl ?_
      refine V.lload d_Mo_writeWords_63 rfl ?_
      refine V.iload_n d_Mo_writeWords_65 rfl ?_
      refine V.if_eq (t := 73) d_Mo_writeWords_66 ⟨rfl, rfl⟩ (fun hc => ?_) (fun hc => ?_)
      · replace hq := ifp hc hq
        refine V.lconst (x := 0) d_Mo_writeWords_73 (by decide) ?_
        refine V.lc_lt d_Mo_writeWords_74 d_Mo_writeWords_75 ⟨rfl, rfl⟩ (fun hc => ?_) (fun hc => ?_)
        · replace hq := ifp hc hq
          refine V.iconst (x := 1) d_Mo_writeWords_87 (by decide) ?_
          refine V.goto (t := 92) d_Mo_writeWords_88 ⟨rfl, rfl⟩ ?_
          obtain ⟨g24, hq⟩ := hq
          refine V.callV d_Mo_writeWords_92 (cV_call (t := [_]) (rs := []) rfl (Or.inl rfl) rfl (lk1 g24) ⟨leb rfl, leb rfl⟩) hq (fun h25 hq => ?_)
          refine V.aload_n d_Mo_writeWords_95 rfl ?_
          refine V.lload d_Mo_writeWords_96 rfl ?_
          refine V.l2i d_Mo_writeWords_98 ?_
          obtain ⟨g27, hq⟩ := hq
          refine V.callV d_Mo_writeWords_99 (cV_call (t := [_]) (rs := []) rfl (Or.inl rfl) rfl (lk1 g27) ⟨leb rfl, leb rfl⟩) hq (fun h28 hq => ?_)
          replace hq := hq _ rfl
          refine V.iinc (l' := [_, _, _, _, _, _, _]) d_Mo_writeWords_102 rfl (show _ + _ = _ + (1 : Int32) from rfl) rfl ?_
          refine V.goto (t := 41) d_Mo_writeWords_105 ⟨rfl, rfl⟩ ?_
          exact hq
        · replace hq := ifn hc hq
          refine V.lload d_Mo_writeWords_78 rfl ?_
          refine V.ldc2_w d_Mo_writeWords_80 rfl ?_
          refine V.lc_le d_Mo_writeWords_83 d_Mo_writeWords_84 ⟨rfl, rfl⟩ (fun hc => ?_) (fun hc => ?_)
          · replace hq := ifp hc hq
            refine V.iconst (x := 1) d_Mo_writeWords_87 (by decide) ?_
            refine V.goto (t := 92) d_Mo_writeWords_88 ⟨rfl, rfl⟩ ?_
            obtain ⟨g31, hq⟩ := hq
            refine V.callV d_Mo_writeWords_92 (cV_call (t := [_]) (rs := []) rfl (Or.inl rfl) rfl (lk1 g31) ⟨leb rfl, leb rfl⟩) hq (fun h32 hq => ?_)
            refine V.aload_n d_Mo_writeWords_95 rfl ?_
            refine V.lload d_Mo_writeWords_96 rfl ?_
            refine V.l2i d_Mo_writeWords_98 ?_
            obtain ⟨g34, hq⟩ := hq
            refine V.callV d_Mo_writeWords_99 (cV_call (t := [_]) (rs := []) rfl (Or.inl rfl) rfl (lk1 g34) ⟨leb rfl, leb rfl⟩) hq (fun h35 hq => ?_)
            replace hq := hq _ rfl
            refine V.iinc (l' := [_, _, _, _, _, _, _]) d_Mo_writeWords_102 rfl (show _ + _ = _ + (1 : Int32) from rfl) rfl ?_
            refine V.goto (t := 41) d_Mo_writeWords_105 ⟨rfl, rfl⟩ ?_
            exact hq
          · replace hq := ifn hc hq
            refine V.iconst (x := 0) d_Mo_writeWords_91 (by decide) ?_
            obtain ⟨g38, hq⟩ := hq
            refine V.callV d_Mo_writeWords_92 (cV_call (t := [_]) (rs := []) rfl (Or.inl rfl) rfl (lk1 g38) ⟨leb rfl, leb rfl⟩) hq (fun h39 hq => ?_)
            refine V.aload_n d_Mo_writeWords_95 rfl ?_
            refine V.lload d_Mo_writeWords_96 rfl ?_
            refine V.l2i d_Mo_writeWords_98 ?_
            obtain ⟨g41, hq⟩ := hq
            refine V.callV d_Mo_writeWords_99 (cV_call (t := [_]) (rs := []) rfl (Or.inl rfl) rfl (lk1 g41) ⟨leb rfl, leb rfl⟩) hq (fun h42 hq => ?_)
            replace hq := hq _ rfl
            refine V.iinc (l' := [_, _, _, _, _, _, _]) d_Mo_writeWords_102 rfl (show _ + _ = _ + (1 : Int32) from rfl) rfl ?_
            refine V.goto (t := 41) d_Mo_writeWords_105 ⟨rfl, rfl⟩ ?_
            exact hq
      · replace hq := ifn hc hq
        refine V.lconst (x := 1) d_Mo_writeWords_69 (by decide) ?_
        refine V.goto (t := 74) d_Mo_writeWords_70 ⟨rfl, rfl⟩ ?_
        refine V.lc_lt d_Mo_writeWords_74 d_Mo_writeWords_75 ⟨rfl, rfl⟩ (fun hc => ?_) (fun hc => ?_)
        · replace hq := ifp hc hq
          refine V.iconst (x := 1) d_Mo_writeWords_87 (by decide) ?_
          refine V.goto (t := 92) d_Mo_writeWords_88 ⟨rfl, rfl⟩ ?_
          obtain ⟨g45, hq⟩ := hq
          refine V.callV d_Mo_writeWords_92 (cV_call (t := [_]) (rs := []) rfl (Or.inl rfl) rfl (lk1 g45) ⟨leb rfl, leb rfl⟩) hq (fun h46 hq => ?_)
          refine V.aload_n d_Mo_writeWords_95 rfl ?_
          refine V.lload d_Mo_writeWords_96 rfl ?_
          refine V.l2i d_Mo_writeWords_98 ?_
          obtain ⟨g48, hq⟩ := hq
          refine V.callV d_Mo_writeWords_99 (cV_call (t := [_]) (rs := []) rfl (Or.inl rfl) rfl (lk1 g48) ⟨leb rfl, leb rfl⟩) hq (fun h49 hq => ?_)
          replace hq := hq _ rfl
          refine V.iinc (l' := [_, _, _, _, _, _, _]) d_Mo_writeWords_102 rfl (show _ + _ = _ + (1 : Int32) from rfl) rfl ?_
          refine V.goto (t := 41) d_Mo_writeWords_105 ⟨rfl, rfl⟩ ?_
          exact hq
        · replace hq := ifn hc hq
          refine V.lload d_Mo_writeWords_78 rfl ?_
          refine V.ldc2_w d_Mo_writeWords_80 rfl ?_
          refine V.lc_le d_Mo_writeWords_83 d_Mo_writeWords_84 ⟨rfl, rfl⟩ (fun hc => ?_) (fun hc => ?_)
          · replace hq := ifp hc hq
            refine V.iconst (x := 1) d_Mo_writeWords_87 (by decide) ?_
            refine V.goto (t := 92) d_Mo_writeWords_88 ⟨rfl, rfl⟩ ?_
            obtain ⟨g52, hq⟩ := hq
            refine V.callV d_Mo_writeWords_92 (cV_call (t := [_]) (rs := []) rfl (Or.inl rfl) rfl (lk1 g52) ⟨leb rfl, leb rfl⟩) hq (fun h53 hq => ?_)
            refine V.aload_n d_Mo_writeWords_95 rfl ?_
            refine V.lload d_Mo_writeWords_96 rfl ?_
            refine V.l2i d_Mo_writeWords_98 ?_
            obtain ⟨g55, hq⟩ := hq
            refine V.callV d_Mo_writeWords_99 (cV_call (t := [_]) (rs := []) rfl (Or.inl rfl) rfl (lk1 g55) ⟨leb rfl, leb rfl⟩) hq (fun h56 hq => ?_)
            replace hq := hq _ rfl
            refine V.iinc (l' := [_, _, _, _, _, _, _]) d_Mo_writeWords_102 rfl (show _ + _ = _ + (1 : Int32) from rfl) rfl ?_
            refine V.goto (t := 41) d_Mo_writeWords_105 ⟨rfl, rfl⟩ ?_
            exact hq
          · replace hq := ifn hc hq
            refine V.iconst (x := 0) d_Mo_writeWords_91 (by decide) ?_
            obtain ⟨g59, hq⟩ := hq
            refine V.callV d_Mo_writeWords_92 (cV_call (t := [_]) (rs := []) rfl (Or.inl rfl) rfl (lk1 g59) ⟨leb rfl, leb rfl⟩) hq (fun h60 hq => ?_)
            refine V.aload_n d_Mo_writeWords_95 rfl ?_
            refine V.lload d_Mo_writeWords_96 rfl ?_
            refine V.l2i d_Mo_writeWords_98 ?_
            obtain ⟨g62, hq⟩ := hq
            refine V.callV d_Mo_writeWords_99 (cV_call (t := [_]) (rs := []) rfl (Or.inl rfl) rfl (lk1 g62) ⟨leb rfl, leb rfl⟩) hq (fun h63 hq => ?_)
            replace hq := hq _ rfl
            refine V.iinc (l' := [_, _, _, _, _, _, _]) d_Mo_writeWords_102 rfl (show _ + _ = _ + (1 : Int32) from rfl) rfl ?_
            refine V.goto (t := 41) d_Mo_writeWords_105 ⟨rfl, rfl⟩ ?_
            exact hq
    · replace hq := ifn hc hq
      refine V.iload_n d_Mo_writeWords_108 rfl ?_
      refine V.if_eq (t := 117) d_Mo_writeWords_109 ⟨rfl, rfl⟩ (fun hc => ?_) (fun hc => ?_)
      · replace hq := ifp hc hq
        refine V.vret d_Mo_writeWords_117 rfl ?_
        exact V.rV hq
      · replace hq := ifn hc hq
        refine V.aload_n d_Mo_writeWords_112 rfl ?_
        refine V.iconst (x := 0) d_Mo_writeWords_113 (by decide) ?_
        refine V.callV d_Mo_writeWords_114 (cV_call (t := [_]) (rs := []) rfl (Or.inl rfl) rfl (lk1 g20) ⟨leb rfl, leb rfl⟩) hq (fun h66 hq => ?_)
        refine V.vret d_Mo_writeWords_117 rfl ?_
        exact V.rV hq
  · replace hq := ifn hc hq
    refine V.iload_n d_Mo_writeWords_108 rfl ?_
    refine V.if_eq (t := 117) d_Mo_writeWords_109 ⟨rfl, rfl⟩ (fun hc => ?_) (fun hc => ?_)
    · replace hq := ifp hc hq
      refine V.vret d_Mo_writeWords_117 rfl ?_
      exact V.rV hq
    · replace hq := ifn hc hq
      refine V.aload_n d_Mo_writeWords_112 rfl ?_
      refine V.iconst (x := 0) d_Mo_writeWords_113 (by decide) ?_
      refine V.callV d_Mo_writeWords_114 (cV_call (t := [_]) (rs := []) rfl (Or.inl rfl) rfl (lk1 g20) ⟨leb rfl, leb rfl⟩) hq (fun h68 hq => ?_)
      refine V.vret d_Mo_writeWords_117 rfl ?_
      exact V.rV hq
theorem w_Mo_unit {d : Nat} {K : Hp → Prop} {x0 : Nat} {x1 : Int32} {h0 : Hp} (hq :
  ((hS h0 x0).1 = 8 ∧ ((hS h0 (hR h0 x0 12)).1 = 20 ∧ (ainr x1 (hS h0 (hR h0 x0 12)).2 = true ∧ (∀ v4 : Int32, v4 = (hI h0 (hR h0 x0 12) x1.toNatClampNeg) → (if v4 = (112 : Int32) then ((hS h0 (hR h0 x0 22)).1 = 20 ∧ (ainr x1 (hS h0 (hR h0 x0 22)).2 = true ∧ (if (hI h0 (hR h0 x0 22) x1.toNatClampNeg) < 0 then (if (0 : Int32) = 0 then Ca d m_Mo_rest [.ref x0] h0 (QV (fun h7 => Wp (d + 1) m_Mo_unit 52 [some (.ref x0), some (.int x1), some (.int v4), some (.int (0 : Int32))] [] h7 (QV K))) else Wp (d + 1) m_Mo_unit 52 [some (.ref x0), some (.int x1), some (.int v4), some (.int (0 : Int32))] [] h0 (QV K)) else (ainr (hI h0 (hR h0 x0 22) x1.toNatClampNeg) (hS h0 (hR h0 x0 12)).2 = true ∧ (if (hI h0 (hR h0 x0 12) (hI h0 (hR h0 x0 22) x1.toNatClampNeg).toNatClampNeg) = (112 : Int32) then (if (1 : Int32) = 0 then Ca d m_Mo_rest [.ref x0] h0 (QV (fun h10 => Wp (d + 1) m_Mo_unit 52 [some (.ref x0), some (.int x1), some (.int v4), some (.int (1 : Int32))] [] h10 (QV K))) else Wp (d + 1) m_Mo_unit 52 [some (.ref x0), some (.int x1), some (.int v4), some (.int (1 : Int32))] [] h0 (QV K)) else (if (0 : Int32) = 0 then Ca d m_Mo_rest [.ref x0] h0 (QV (fun h12 => Wp (d + 1) m_Mo_unit 52 [some (.ref x0), some (.int x1), some (.int v4), some (.int (0 : Int32))] [] h12 (QV K))) else Wp (d + 1) m_Mo_unit 52 [some (.ref x0), some (.int x1), some (.int v4), some (.int (0 : Int32))] [] h0 (QV K))))))) else (if (0 : Int32) = 0 then Ca d m_Mo_rest [.ref x0] h0 (QV (fun h14 => Wp (d + 1) m_Mo_unit 52 [some (.ref x0), some (.int x1), some (.int v4), some (.int (0 : Int32))] [] h14 (QV K))) else Wp (d + 1) m_Mo_unit 52 [some (.ref x0), some (.int x1), some (.int v4), some (.int (0 : Int32))] [] h0 (QV K)))))))) : Ca (d + 1) m_Mo_unit [.ref x0, .int x1] h0 (QV K) := by
  show Wp _ _ 0 [some (.ref x0), some (.int x1), none, none] [] h0 _
  refine V.aload_n d_Mo_unit_0 rfl ?_
  obtain ⟨g1, hq⟩ := hq
  refine V.get2 d_Mo_unit_1 rfl (List.mem_singleton.mpr g1) ?_
  refine V.iload_n d_Mo_unit_4 rfl ?_
  obtain ⟨g2, hq⟩ := hq
  obtain ⟨g3, hq⟩ := hq
  refine V.iaload d_Mo_unit_5 g2 g3 ?_
  replace hq := hq _ rfl
  refine V.istore_n (l' := [_, _, _, _]) d_Mo_unit_6 rfl (ltb rfl) ?_
  refine V.iload_n d_Mo_unit_7 rfl ?_
  refine V.bipush (x := 112) d_Mo_unit_8 (by decide) ?_
  refine V.ic_ne (t := 42) d_Mo_unit_10 ⟨rfl, rfl⟩ (fun hc => ?_) (fun hc => ?_)
  · replace hq := ifp hc hq
    refine V.aload_n d_Mo_unit_13 rfl ?_
    refine V.get2 d_Mo_unit_14 rfl (List.mem_singleton.mpr g1) ?_
    refine V.iload_n d_Mo_unit_17 rfl ?_
    obtain ⟨g5, hq⟩ := hq
    obtain ⟨g6, hq⟩ := hq
    refine V.iaload d_Mo_unit_18 g5 g6 ?_
    refine V.if_lt (t := 42) d_Mo_unit_19 ⟨rfl, rfl⟩ (fun hc => ?_) (fun hc => ?_)
    · replace hq := ifp hc hq
      refine V.iconst (x := 0) d_Mo_unit_42 (by decide) ?_
      refine V.istore_n (l' := [_, _, _, _]) d_Mo_unit_43 rfl (ltb rfl) ?_
      refine V.iload_n d_Mo_unit_44 rfl ?_
      refine V.if_ne (t := 52) d_Mo_unit_45 ⟨rfl, rfl⟩ (fun hc => ?_) (fun hc => ?_)
      · replace hq := ifp hc hq
        refine V.aload_n d_Mo_unit_48 rfl ?_
        refine V.callV d_Mo_unit_49 (cV_call (t := []) (rs := []) rfl (Or.inl rfl) rfl (lk1 g1) ⟨leb rfl, leb rfl⟩) hq (fun h7 hq => ?_)
        exact hq
      · replace hq := ifn hc hq
        exact hq
    · replace hq := ifn hc hq
      refine V.aload_n d_Mo_unit_22 rfl ?_
      refine V.get2 d_Mo_unit_23 rfl (List.mem_singleton.mpr g1) ?_
      refine V.aload_n d_Mo_unit_26 rfl ?_
      refine V.get2 d_Mo_unit_27 rfl (List.mem_singleton.mpr g1) ?_
      refine V.iload_n d_Mo_unit_30 rfl ?_
      refine V.iaload d_Mo_unit_31 g5 g6 ?_
      obtain ⟨g9, hq⟩ := hq
      refine V.iaload d_Mo_unit_32 g2 g9 ?_
      refine V.bipush (x := 112) d_Mo_unit_33 (by decide) ?_
      refine V.ic_ne (t := 42) d_Mo_unit_35 ⟨rfl, rfl⟩ (fun hc => ?_) (fun hc => ?_)
      · replace hq := ifp hc hq
        refine V.iconst (x := 1) d_Mo_unit_38 (by decide) ?_
        refine V.goto (t := 43) d_Mo_unit_39 ⟨rfl, rfl⟩ ?_
        refine V.istore_n (l' := [_, _, _, _]) d_Mo_unit_43 rfl (ltb rfl) ?_
        refine V.iload_n d_Mo_unit_44 rfl ?_
        refine V.if_ne (t := 52) d_Mo_unit_45 ⟨rfl, rfl⟩ (fun hc => ?_) (fun hc => ?_)
        · replace hq := ifp hc hq
          refine V.aload_n d_Mo_unit_48 rfl ?_
          refine V.callV d_Mo_unit_49 (cV_call (t := []) (rs := []) rfl (Or.inl rfl) rfl (lk1 g1) ⟨leb rfl, leb rfl⟩) hq (fun h10 hq => ?_)
          exact hq
        · replace hq := ifn hc hq
          exact hq
      · replace hq := ifn hc hq
        refine V.iconst (x := 0) d_Mo_unit_42 (by decide) ?_
        refine V.istore_n (l' := [_, _, _, _]) d_Mo_unit_43 rfl (ltb rfl) ?_
        refine V.iload_n d_Mo_unit_44 rfl ?_
        refine V.if_ne (t := 52) d_Mo_unit_45 ⟨rfl, rfl⟩ (fun hc => ?_) (fun hc => ?_)
        · replace hq := ifp hc hq
          refine V.aload_n d_Mo_unit_48 rfl ?_
          refine V.callV d_Mo_unit_49 (cV_call (t := []) (rs := []) rfl (Or.inl rfl) rfl (lk1 g1) ⟨leb rfl, leb rfl⟩) hq (fun h12 hq => ?_)
          exact hq
        · replace hq := ifn hc hq
          exact hq
  · replace hq := ifn hc hq
    refine V.iconst (x := 0) d_Mo_unit_42 (by decide) ?_
    refine V.istore_n (l' := [_, _, _, _]) d_Mo_unit_43 rfl (ltb rfl) ?_
    refine V.iload_n d_Mo_unit_44 rfl ?_
    refine V.if_ne (t := 52) d_Mo_unit_45 ⟨rfl, rfl⟩ (fun hc => ?_) (fun hc => ?_)
    · replace hq := ifp hc hq
      refine V.aload_n d_Mo_unit_48 rfl ?_
      refine V.callV d_Mo_unit_49 (cV_call (t := []) (rs := []) rfl (Or.inl rfl) rfl (lk1 g1) ⟨leb rfl, leb rfl⟩) hq (fun h14 hq => ?_)
      exact hq
    · replace hq := ifn hc hq
      exact hq
set_option maxRecDepth 100000 in
theorem w_Mo_unit_52 {d : Nat} {K : Hp → Prop} {x0 : Nat} {x1 : Int32} {x2 : Int32} {y3 : Option Value} {h0 : Hp} (hq :
  ((hS h0 x0).1 = 8 ∧ (if 0 < (hI h0 x0 41) then K h0 else (if (hI h0 x0 43) < (8 : Int32) then (∀ h17 : Hp, h17 = sI h0 x0 47 ((hI h0 x0 42) - (1 : Int32)) → Ca d m_Mo_nameAround [.ref x0, .int x1] h17 (QI (fun v18 h19 => ((hS h19 x0).1 = 8 ∧ (∀ h22 : Hp, h22 = sI h19 x0 48 v18 → Ca d m_Mo_sized [.ref x0, .int x2] h22 (QI (fun v23 h24 => (if v23 = 0 then (if x2 = (102 : Int32) then ((hS h24 x0).1 = 8 ∧ Ca d m_Mo_floating [.ref x0, .int x1] h24 (QV (fun h27 => K h27))) else (if x2 = (100 : Int32) then ((hS h24 x0).1 = 8 ∧ Ca d m_Mo_floating [.ref x0, .int x1] h24 (QV (fun h30 => K h30))) else ((hS h24 x0).1 = 8 ∧ (if (hI h24 x0 40) = 0 then (if x2 = (122 : Int32) then Ca d m_Mo_words [.ref x0, .int (1 : Int32)] h24 (QV (fun h33 => K h33)) else Ca d m_Mo_words [.ref x0, .int (0 : Int32)] h24 (QV (fun h35 => K h35))) else (if x2 = (122 : Int32) then Ca d m_Mo_writeWords [.ref x0, .int (1 : Int32)] h24 (QV (fun h37 => K h37)) else Ca d m_Mo_writeWords [.ref x0, .int (0 : Int32)] h24 (QV (fun h39 => K h39))))))) else ((hS h24 x0).1 = 8 ∧ Ca d m_Mo_sizedUnit [.ref x0, .int x1] h24 (QV (fun h42 => K h42))))))))))) else (∀ h44 : Hp, h44 = sI h0 x0 47 (hI h0 x0 42) → Ca d m_Mo_nameAround [.ref x0, .int x1] h44 (QI (fun v45 h46 => ((hS h46 x0).1 = 8 ∧ (∀ h49 : Hp, h49 = sI h46 x0 48 v45 → Ca d m_Mo_sized [.ref x0, .int x2] h49 (QI (fun v50 h51 => (if v50 = 0 then (if x2 = (102 : Int32) then ((hS h51 x0).1 = 8 ∧ Ca d m_Mo_floating [.ref x0, .int x1] h51 (QV (fun h54 => K h54))) else (if x2 = (100 : Int32) then ((hS h51 x0).1 = 8 ∧ Ca d m_Mo_floating [.ref x0, .int x1] h51 (QV (fun h57 => K h57))) else ((hS h51 x0).1 = 8 ∧ (if (hI h51 x0 40) = 0 then (if x2 = (122 : Int32) then Ca d m_Mo_words [.ref x0, .int (1 : Int32)] h51 (QV (fun h60 => K h60)) else Ca d m_Mo_words [.ref x0, .int (0 : Int32)] h51 (QV (fun h62 => K h62))) else (if x2 = (122 : Int32) then Ca d m_Mo_writeWords [.ref x0, .int (1 : Int32)] h51 (QV (fun h64 => K h64)) else Ca d m_Mo_writeWords [.ref x0, .int (0 : Int32)] h51 (QV (fun h66 => K h66))))))) else ((hS h51 x0).1 = 8 ∧ Ca d m_Mo_sizedUnit [.ref x0, .int x1] h51 (QV (fun h69 => K h69))))))))))))))) : Wp (d + 1) m_Mo_unit 52 [some (.ref x0), some (.int x1), some (.int x2), y3] [] h0 (QV K) := by
  refine V.aload_n d_Mo_unit_52 rfl ?_
  obtain ⟨g16, hq⟩ := hq
  refine V.get0 d_Mo_unit_53 rfl (List.mem_singleton.mpr g16) ?_
  refine V.if_le (t := 60) d_Mo_unit_56 ⟨rfl, rfl⟩ (fun hc => ?_) (fun hc => ?_)
  · replace hq := ifp hc hq
    refine V.vret d_Mo_unit_59 rfl ?_
    exact V.rV hq
  · replace hq := ifn hc hq
    refine V.aload_n d_Mo_unit_60 rfl ?_
    refine V.aload_n d_Mo_unit_61 rfl ?_
    refine V.get0 d_Mo_unit_62 rfl (List.mem_singleton.mpr g16) ?_
    refine V.bipush (x := 8) d_Mo_unit_65 (by decide) ?_
    refine V.ic_ge (t := 79) d_Mo_unit_67 ⟨rfl, rfl⟩ (fun hc => ?_) (fun hc => ?_)
    · replace hq := ifp hc hq
      refine V.aload_n d_Mo_unit_70 rfl ?_
      refine V.get0 d_Mo_unit_71 rfl (List.mem_singleton.mpr g16) ?_
      refine V.iconst (x := 1) d_Mo_unit_74 (by decide) ?_
      refine V.isub d_Mo_unit_75 ?_
      refine V.goto (t := 83) d_Mo_unit_76 ⟨rfl, rfl⟩ ?_
      refine V.put0 d_Mo_unit_83 rfl (Or.inl rfl) (List.mem_singleton.mpr g16) ?_
      replace hq := hq _ rfl
      refine V.aload_n d_Mo_unit_86 rfl ?_
      refine V.aload_n d_Mo_unit_87 rfl ?_
      refine V.iload_n d_Mo_unit_88 rfl ?_
      refine V.callI d_Mo_unit_89 (cV_call (t := [_]) (rs := [_]) rfl (Or.inl rfl) rfl (lk1 g16) ⟨leb rfl, leb rfl⟩) hq (fun v18 h19 hq => ?_)
      obtain ⟨g21, hq⟩ := hq
      refine V.put0 d_Mo_unit_92 rfl (Or.inl rfl) (List.mem_singleton.mpr g21) ?_
      replace hq := hq _ rfl
      refine V.aload_n d_Mo_unit_95 rfl ?_
      refine V.iload_n d_Mo_unit_96 rfl ?_
      refine V.callI d_Mo_unit_97 (cV_call (t := [_]) (rs := []) rfl (Or.inl rfl) rfl (lk1 g21) ⟨leb rfl, leb rfl⟩) hq (fun v23 h24 hq => ?_)
      refine V.if_eq (t := 111) d_Mo_unit_100 ⟨rfl, rfl⟩ (fun hc => ?_) (fun hc => ?_)
      · replace hq := ifp hc hq
        refine V.iload_n d_Mo_unit_111 rfl ?_
        refine V.bipush (x := 102) d_Mo_unit_112 (by decide) ?_
        refine V.ic_eq (t := 123) d_Mo_unit_114 ⟨rfl, rfl⟩ (fun hc => ?_) (fun hc => ?_)
        · replace hq := ifp hc hq
          refine V.aload_n d_Mo_unit_123 rfl ?_
          refine V.iload_n d_Mo_unit_124 rfl ?_
          obtain ⟨g26, hq⟩ := hq
          refine V.callV d_Mo_unit_125 (cV_call (t := [_]) (rs := []) rfl (Or.inl rfl) rfl (lk1 g26) ⟨leb rfl, leb rfl⟩) hq (fun h27 hq => ?_)
          refine V.goto (t := 171) d_Mo_unit_128 ⟨rfl, rfl⟩ ?_
          refine V.vret d_Mo_unit_171 rfl ?_
          exact V.rV hq
        · replace hq := ifn hc hq
          refine V.iload_n d_Mo_unit_117 rfl ?_
          refine V.bipush (x := 100) d_Mo_unit_118 (by decide) ?_
          refine V.ic_ne (t := 131) d_Mo_unit_120 ⟨rfl, rfl⟩ (fun hc => ?_) (fun hc => ?_)
          · replace hq := ifp hc hq
            refine V.aload_n d_Mo_unit_123 rfl ?_
            refine V.iload_n d_Mo_unit_124 rfl ?_
            obtain ⟨g29, hq⟩ := hq
            refine V.callV d_Mo_unit_125 (cV_call (t := [_]) (rs := []) rfl (Or.inl rfl) rfl (lk1 g29) ⟨leb rfl, leb rfl⟩) hq (fun h30 hq => ?_)
            refine V.goto (t := 171) d_Mo_unit_128 ⟨rfl, rfl⟩ ?_
            refine V.vret d_Mo_unit_171 rfl ?_
            exact V.rV hq
          · replace hq := ifn hc hq
            refine V.aload_n d_Mo_unit_131 rfl ?_
            obtain ⟨g32, hq⟩ := hq
            refine V.get3 d_Mo_unit_132 rfl (List.mem_singleton.mpr g32) ?_
            refine V.if_eq (t := 156) d_Mo_unit_135 ⟨rfl, rfl⟩ (fun hc => ?_) (fun hc => ?_)
            · replace hq := ifp hc hq
              refine V.aload_n d_Mo_unit_156 rfl ?_
              refine V.iload_n d_Mo_unit_157 rfl ?_
              refine V.bipush (x := 122) d_Mo_unit_158 (by decide) ?_
              refine V.ic_ne (t := 167) d_Mo_unit_160 ⟨rfl, rfl⟩ (fun hc => ?_) (fun hc => ?_)
              · replace hq := ifp hc hq
                refine V.iconst (x := 1) d_Mo_unit_163 (by decide) ?_
                refine V.goto (t := 168) d_Mo_unit_164 ⟨rfl, rfl⟩ ?_
                refine V.callV d_Mo_unit_168 (cV_call (t := [_]) (rs := []) rfl (Or.inl rfl) rfl (lk1 g32) ⟨leb rfl, leb rfl⟩) hq (fun h33 hq => ?_)
                refine V.vret d_Mo_unit_171 rfl ?_
                exact V.rV hq
              · replace hq := ifn hc hq
                refine V.iconst (x := 0) d_Mo_unit_167 (by decide) ?_
                refine V.callV d_Mo_unit_168 (cV_call (t := [_]) (rs := []) rfl (Or.inl rfl) rfl (lk1 g32) ⟨leb rfl, leb rfl⟩) hq (fun h35 hq => ?_)
                refine V.vret d_Mo_unit_171 rfl ?_
                exact V.rV hq
            · replace hq := ifn hc hq
              refine V.aload_n d_Mo_unit_138 rfl ?_
              refine V.iload_n d_Mo_unit_139 rfl ?_
              refine V.bipush (x := 122) d_Mo_unit_140 (by decide) ?_
              refine V.ic_ne (t := 149) d_Mo_unit_142 ⟨rfl, rfl⟩ (fun hc => ?_) (fun hc => ?_)
              · replace hq := ifp hc hq
                refine V.iconst (x := 1) d_Mo_unit_145 (by decide) ?_
                refine V.goto (t := 150) d_Mo_unit_146 ⟨rfl, rfl⟩ ?_
                refine V.callV d_Mo_unit_150 (cV_call (t := [_]) (rs := []) rfl (Or.inl rfl) rfl (lk1 g32) ⟨leb rfl, leb rfl⟩) hq (fun h37 hq => ?_)
                refine V.goto (t := 171) d_Mo_unit_153 ⟨rfl, rfl⟩ ?_
                refine V.vret d_Mo_unit_171 rfl ?_
                exact V.rV hq
              · replace hq := ifn hc hq
                refine V.iconst (x := 0) d_Mo_unit_149 (by decide) ?_
                refine V.callV d_Mo_unit_150 (cV_call (t := [_]) (rs := []) rfl (Or.inl rfl) rfl (lk1 g32) ⟨leb rfl, leb rfl⟩) hq (fun h39 hq => ?_)
                refine V.goto (t := 171) d_Mo_unit_153 ⟨rfl, rfl⟩ ?_
                refine V.vret d_Mo_unit_171 rfl ?_
                exact V.rV hq
      · replace hq := ifn hc hq
        refine V.aload_n d_Mo_unit_103 rfl ?_
        refine V.iload_n d_Mo_unit_104 rfl ?_
        obtain ⟨g41, hq⟩ := hq
        refine V.callV d_Mo_unit_105 (cV_call (t := [_]) (rs := []) rfl (Or.inl rfl) rfl (lk1 g41) ⟨leb rfl, leb rfl⟩) hq (fun h42 hq => ?_)
        refine V.goto (t := 171) d_Mo_unit_108 ⟨rfl, rfl⟩ ?_
        refine V.vret d_Mo_unit_171 rfl ?_
        exact V.rV hq
    · replace hq := ifn hc hq
      refine V.aload_n d_Mo_unit_79 rfl ?_
      refine V.get0 d_Mo_unit_80 rfl (List.mem_singleton.mpr g16) ?_
      refine V.put0 d_Mo_unit_83 rfl (Or.inl rfl) (List.mem_singleton.mpr g16) ?_
      replace hq := hq _ rfl
      refine V.aload_n d_Mo_unit_86 rfl ?_
      refine V.aload_n d_Mo_unit_87 rfl ?_
      refine V.iload_n d_Mo_unit_88 rfl ?_
      refine V.callI d_Mo_unit_89 (cV_call (t := [_]) (rs := [_]) rfl (Or.inl rfl) rfl (lk1 g16) ⟨leb rfl, leb rfl⟩) hq (fun v45 h46 hq => ?_)
      obtain ⟨g48, hq⟩ := hq
      refine V.put0 d_Mo_unit_92 rfl (Or.inl rfl) (List.mem_singleton.mpr g48) ?_
      replace hq := hq _ rfl
      refine V.aload_n d_Mo_unit_95 rfl ?_
      refine V.iload_n d_Mo_unit_96 rfl ?_
      refine V.callI d_Mo_unit_97 (cV_call (t := [_]) (rs := []) rfl (Or.inl rfl) rfl (lk1 g48) ⟨leb rfl, leb rfl⟩) hq (fun v50 h51 hq => ?_)
      refine V.if_eq (t := 111) d_Mo_unit_100 ⟨rfl, rfl⟩ (fun hc => ?_) (fun hc => ?_)
      · replace hq := ifp hc hq
        refine V.iload_n d_Mo_unit_111 rfl ?_
        refine V.bipush (x := 102) d_Mo_unit_112 (by decide) ?_
        refine V.ic_eq (t := 123) d_Mo_unit_114 ⟨rfl, rfl⟩ (fun hc => ?_) (fun hc => ?_)
        · replace hq := ifp hc hq
          refine V.aload_n d_Mo_unit_123 rfl ?_
          refine V.iload_n d_Mo_unit_124 rfl ?_
          obtain ⟨g53, hq⟩ := hq
          refine V.callV d_Mo_unit_125 (cV_call (t := [_]) (rs := []) rfl (Or.inl rfl) rfl (lk1 g53) ⟨leb rfl, leb rfl⟩) hq (fun h54 hq => ?_)
          refine V.goto (t := 171) d_Mo_unit_128 ⟨rfl, rfl⟩ ?_
          refine V.vret d_Mo_unit_171 rfl ?_
          exact V.rV hq
        · replace hq := ifn hc hq
          refine V.iload_n d_Mo_unit_117 rfl ?_
          refine V.bipush (x := 100) d_Mo_unit_118 (by decide) ?_
          refine V.ic_ne (t := 131) d_Mo_unit_120 ⟨rfl, rfl⟩ (fun hc => ?_) (fun hc => ?_)
          · replace hq := ifp hc hq
            refine V.aload_n d_Mo_unit_123 rfl ?_
            refine V.iload_n d_Mo_unit_124 rfl ?_
            obtain ⟨g56, hq⟩ := hq
            refine V.callV d_Mo_unit_125 (cV_call (t := [_]) (rs := []) rfl (Or.inl rfl) rfl (lk1 g56) ⟨leb rfl, leb rfl⟩) hq (fun h57 hq => ?_)
            refine V.goto (t := 171) d_Mo_unit_128 ⟨rfl, rfl⟩ ?_
            refine V.vret d_Mo_unit_171 rfl ?_
            exact V.rV hq
          · replace hq := ifn hc hq
            refine V.aload_n d_Mo_unit_131 rfl ?_
            obtain ⟨g59, hq⟩ := hq
            refine V.get3 d_Mo_unit_132 rfl (List.mem_singleton.mpr g59) ?_
            refine V.if_eq (t := 156) d_Mo_unit_135 ⟨rfl, rfl⟩ (fun hc => ?_) (fun hc => ?_)
            · replace hq := ifp hc hq
              refine V.aload_n d_Mo_unit_156 rfl ?_
              refine V.iload_n d_Mo_unit_157 rfl ?_
              refine V.bipush (x := 122) d_Mo_unit_158 (by decide) ?_
              refine V.ic_ne (t := 167) d_Mo_unit_160 ⟨rfl, rfl⟩ (fun hc => ?_) (fun hc => ?_)
              · replace hq := ifp hc hq
                refine V.iconst (x := 1) d_Mo_unit_163 (by decide) ?_
                refine V.goto (t := 168) d_Mo_unit_164 ⟨rfl, rfl⟩ ?_
                refine V.callV d_Mo_unit_168 (cV_call (t := [_]) (rs := []) rfl (Or.inl rfl) rfl (lk1 g59) ⟨leb rfl, leb rfl⟩) hq (fun h60 hq => ?_)
                refine V.vret d_Mo_unit_171 rfl ?_
                exact V.rV hq
              · replace hq := ifn hc hq
                refine V.iconst (x := 0) d_Mo_unit_167 (by decide) ?_
                refine V.callV d_Mo_unit_168 (cV_call (t := [_]) (rs := []) rfl (Or.inl rfl) rfl (lk1 g59) ⟨leb rfl, leb rfl⟩) hq (fun h62 hq => ?_)
                refine V.vret d_Mo_unit_171 rfl ?_
                exact V.rV hq
            · replace hq := ifn hc hq
              refine V.aload_n d_Mo_unit_138 rfl ?_
              refine V.iload_n d_Mo_unit_139 rfl ?_
              refine V.bipush (x := 122) d_Mo_unit_140 (by decide) ?_
              refine V.ic_ne (t := 149) d_Mo_unit_142 ⟨rfl, rfl⟩ (fun hc => ?_) (fun hc => ?_)
              · replace hq := ifp hc hq
                refine V.iconst (x := 1) d_Mo_unit_145 (by decide) ?_
                refine V.goto (t := 150) d_Mo_unit_146 ⟨rfl, rfl⟩ ?_
                refine V.callV d_Mo_unit_150 (cV_call (t := [_]) (rs := []) rfl (Or.inl rfl) rfl (lk1 g59) ⟨leb rfl, leb rfl⟩) hq (fun h64 hq => ?_)
                refine V.goto (t := 171) d_Mo_unit_153 ⟨rfl, rfl⟩ ?_
                refine V.vret d_Mo_unit_171 rfl ?_
                exact V.rV hq
              · replace hq := ifn hc hq
                refine V.iconst (x := 0) d_Mo_unit_149 (by decide) ?_
                refine V.callV d_Mo_unit_150 (cV_call (t := [_]) (rs := []) rfl (Or.inl rfl) rfl (lk1 g59) ⟨leb rfl, leb rfl⟩) hq (fun h66 hq => ?_)
                refine V.goto (t := 171) d_Mo_unit_153 ⟨rfl, rfl⟩ ?_
                refine V.vret d_Mo_unit_171 rfl ?_
                exact V.rV hq
      · replace hq := ifn hc hq
        refine V.aload_n d_Mo_unit_103 rfl ?_
        refine V.iload_n d_Mo_unit_104 rfl ?_
        obtain ⟨g68, hq⟩ := hq
        refine V.callV d_Mo_unit_105 (cV_call (t := [_]) (rs := []) rfl (Or.inl rfl) rfl (lk1 g68) ⟨leb rfl, leb rfl⟩) hq (fun h69 hq => ?_)
        refine V.goto (t := 171) d_Mo_unit_108 ⟨rfl, rfl⟩ ?_
        refine V.vret d_Mo_unit_171 rfl ?_
        exact V.rV hq
theorem w_Mo_enter {d : Nat} {K : Hp → Prop} {x0 : Nat} {x1 : Int32} {h0 : Hp} (hq :
  ((hS h0 x0).1 = 8 ∧ ((hS h0 (hR h0 x0 12)).1 = 20 ∧ (ainr x1 (hS h0 (hR h0 x0 12)).2 = true ∧ (∀ v4 : Int32, v4 = (hI h0 (hR h0 x0 12) x1.toNatClampNeg) → (if v4 = (123 : Int32) then Wp (d + 1) m_Mo_enter 37 [some (.ref x0), some (.int x1), some (.int v4), none, none, none] [] h0 (QV K) else (if v4 = (42 : Int32) then Wp (d + 1) m_Mo_enter 37 [some (.ref x0), some (.int x1), some (.int v4), none, none, none] [] h0 (QV K) else (if v4 = (47 : Int32) then Wp (d + 1) m_Mo_enter 37 [some (.ref x0), some (.int x1), some (.int v4), none, none, none] [] h0 (QV K) else (if v4 = (63 : Int32) then Wp (d + 1) m_Mo_enter 37 [some (.ref x0), some (.int x1), some (.int v4), none, none, none] [] h0 (QV K) else Ca d m_Mo_unit [.ref x0, .int x1] h0 (QV (fun h5 => K h5))))))))))) : Ca (d + 1) m_Mo_enter [.ref x0, .int x1] h0 (QV K) := by
  show Wp _ _ 0 [some (.ref x0), some (.int x1), none, none, none, none] [] h0 _
  refine V.aload_n d_Mo_enter_0 rfl ?_
  obtain ⟨g1, hq⟩ := hq
  refine V.get2 d_Mo_enter_1 rfl (List.mem_singleton.mpr g1) ?_
  refine V.iload_n d_Mo_enter_4 rfl ?_
  obtain ⟨g2, hq⟩ := hq
  obtain ⟨g3, hq⟩ := hq
  refine V.iaload d_Mo_enter_5 g2 g3 ?_
  replace hq := hq _ rfl
  refine V.istore_n (l' := [_, _, _, _, _, _]) d_Mo_enter_6 rfl (ltb rfl) ?_
  refine V.iload_n d_Mo_enter_7 rfl ?_
  refine V.bipush (x := 123) d_Mo_enter_8 (by decide) ?_
  refine V.ic_eq (t := 37) d_Mo_enter_10 ⟨rfl, rfl⟩ (fun hc => ?_) (fun hc => ?_)
  · replace hq := ifp hc hq
    exact hq
  · replace hq := ifn hc hq
    refine V.iload_n d_Mo_enter_13 rfl ?_
    refine V.bipush (x := 42) d_Mo_enter_14 (by decide) ?_
    refine V.ic_eq (t := 37) d_Mo_enter_16 ⟨rfl, rfl⟩ (fun hc => ?_) (fun hc => ?_)
    · replace hq := ifp hc hq
      exact hq
    · replace hq := ifn hc hq
      refine V.iload_n d_Mo_enter_19 rfl ?_
      refine V.bipush (x := 47) d_Mo_enter_20 (by decide) ?_
      refine V.ic_eq (t := 37) d_Mo_enter_22 ⟨rfl, rfl⟩ (fun hc => ?_) (fun hc => ?_)
      · replace hq := ifp hc hq
        exact hq
      · replace hq := ifn hc hq
        refine V.iload_n d_Mo_enter_25 rfl ?_
        refine V.bipush (x := 63) d_Mo_enter_26 (by decide) ?_
        refine V.ic_eq (t := 37) d_Mo_enter_28 ⟨rfl, rfl⟩ (fun hc => ?_) (fun hc => ?_)
        · replace hq := ifp hc hq
          exact hq
        · replace hq := ifn hc hq
          refine V.aload_n d_Mo_enter_31 rfl ?_
          refine V.iload_n d_Mo_enter_32 rfl ?_
          refine V.callV d_Mo_enter_33 (cV_call (t := [_]) (rs := []) rfl (Or.inl rfl) rfl (lk1 g1) ⟨leb rfl, leb rfl⟩) hq (fun h5 hq => ?_)
          refine V.vret d_Mo_enter_36 rfl ?_
          exact V.rV hq
set_option maxRecDepth 100000 in
theorem w_Mo_enter_37 {d : Nat} {K : Hp → Prop} {x0 : Nat} {x1 : Int32} {x2 : Int32} {y3 : Option Value} {y4 : Option Value} {y5 : Option Value} {h0 : Hp} (hq :
  ((hS h0 x0).1 = 8 ∧ ((hS h0 (hR h0 x0 33)).1 = 20 ∧ (ainr x1 (hS h0 (hR h0 x0 33)).2 = true ∧ (if (hI h0 (hR h0 x0 33) x1.toNatClampNeg) < 0 then (if x2 = (42 : Int32) then (if (0 : Int64) < (0 : Int64) then Ca d m_Mo_wrong [.ref x0, .int (1 : Int32)] h0 (QV (fun h10 => ((hS h10 x0).1 = 8 ∧ ((hS h10 (hR h10 x0 20)).1 = 20 ∧ (ainr x1 (hS h10 (hR h10 x0 20)).2 = true ∧ (∀ v15 : Int32, v15 = (hI h10 (hR h10 x0 20) x1.toNatClampNeg) → Wp (d + 1) m_Mo_enter 97 [some (.ref x0), some (.int x1), some (.int x2), some (.long (0 : Int64)), none, some (.int v15)] [] h10 (QV K))))))) else Ca d m_Mo_wrong [.ref x0, .int (0 : Int32)] h0 (QV (fun h16 => ((hS h16 x0).1 = 8 ∧ ((hS h16 (hR h16 x0 20)).1 = 20 ∧ (ainr x1 (hS h16 (hR h16 x0 20)).2 = true ∧ (∀ v21 : Int32, v21 = (hI h16 (hR h16 x0 20) x1.toNatClampNeg) → Wp (d + 1) m_Mo_enter 97 [some (.ref x0), some (.int x1), some (.int x2), some (.long (0 : Int64)), none, some (.int v21)] [] h16 (QV K)))))))) else (if x2 = (47 : Int32) then (if (0 : Int64) < (0 : Int64) then Ca d m_Mo_wrong [.ref x0, .int (1 : Int32)] h0 (QV (fun h22 => ((hS h22 x0).1 = 8 ∧ ((hS h22 (hR h22 x0 20)).1 = 20 ∧ (ainr x1 (hS h22 (hR h22 x0 20)).2 = true ∧ (∀ v27 : Int32, v27 = (hI h22 (hR h22 x0 20) x1.toNatClampNeg) → Wp (d + 1) m_Mo_enter 97 [some (.ref x0), some (.int x1), some (.int x2), some (.long (0 : Int64)), none, some (.int v27)] [] h22 (QV K))))))) else Ca d m_Mo_wrong [.ref x0, .int (0 : Int32)] h0 (QV (fun h28 => ((hS h28 x0).1 = 8 ∧ ((hS h28 (hR h28 x0 20)).1 = 20 ∧ (ainr x1 (hS h28 (hR h28 x0 20)).2 = true ∧ (∀ v33 : Int32, v33 = (hI h28 (hR h28 x0 20) x1.toNatClampNeg) → Wp (d + 1) m_Mo_enter 97 [some (.ref x0), some (.int x1), some (.int x2), some (.long (0 : Int64)), none, some (.int v33)] [] h28 (QV K)))))))) else Ca d m_Mo_wrong [.ref x0, .int (0 : Int32)] h0 (QV (fun h34 => ((hS h34 x0).1 = 8 ∧ ((hS h34 (hR h34 x0 20)).1 = 20 ∧ (ainr x1 (hS h34 (hR h34 x0 20)).2 = true ∧ (∀ v39 : Int32, v39 = (hI h34 (hR h34 x0 20) x1.toNatClampNeg) → Wp (d + 1) m_Mo_enter 97 [some (.ref x0), some (.int x1), some (.int x2), some (.long (0 : Int64)), none, some (.int v39)] [] h34 (QV K))))))))) else ((hS h0 (hR h0 x0 34)).1 = 21 ∧ (ainr (hI h0 (hR h0 x0 33) x1.toNatClampNeg) (hS h0 (hR h0 x0 34)).2 = true ∧ (∀ v42 : Int64, v42 = (hL h0 (hR h0 x0 34) (hI h0 (hR h0 x0 33) x1.toNatClampNeg).toNatClampNeg) → (if x2 = (42 : Int32) then (if v42 < (0 : Int64) then Ca d m_Mo_wrong [.ref x0, .int (1 : Int32)] h0 (QV (fun h43 => ((hS h43 x0).1 = 8 ∧ ((hS h43 (hR h43 x0 20)).1 = 20 ∧ (ainr x1 (hS h43 (hR h43 x0 20)).2 = true ∧ (∀ v48 : Int32, v48 = (hI h43 (hR h43 x0 20) x1.toNatClampNeg) → Wp (d + 1) m_Mo_enter 97 [some (.ref x0), some (.int x1), some (.int x2), some (.long v42), none, some (.int v48)] [] h43 (QV K))))))) else Ca d m_Mo_wrong [.ref x0, .int (0 : Int32)] h0 (QV (fun h49 => ((hS h49 x0).1 = 8 ∧ ((hS h49 (hR h49 x0 20)).1 = 20 ∧ (ainr x1 (hS h49 (hR h49 x0 20)).2 = true ∧ (∀ v54 : Int32, v54 = (hI h49 (hR h49 x0 20) x1.toNatClampNeg) → Wp (d + 1) m_Mo_enter 97 [some (.ref x0), some (.int x1), some (.int x2), some (.long v42), none, some (.int v54)] [] h49 (QV K)))))))) else (if x2 = (47 : Int32) then (if v42 < (0 : Int64) then Ca d m_Mo_wrong [.ref x0, .int (1 : Int32)] h0 (QV (fun h55 => ((hS h55 x0).1 = 8 ∧ ((hS h55 (hR h55 x0 20)).1 = 20 ∧ (ainr x1 (hS h55 (hR h55 x0 20)).2 = true ∧ (∀ v60 : Int32, v60 = (hI h55 (hR h55 x0 20) x1.toNatClampNeg) → Wp (d + 1) m_Mo_enter 97 [some (.ref x0), some (.int x1), some (.int x2), some (.long v42), none, some (.int v60)] [] h55 (QV K))))))) else Ca d m_Mo_wrong [.ref x0, .int (0 : Int32)] h0 (QV (fun h61 => ((hS h61 x0).1 = 8 ∧ ((hS h61 (hR h61 x0 20)).1 = 20 ∧ (ainr x1 (hS h61 (hR h61 x0 20)).2 = true ∧ (∀ v66 : Int32, v66 = (hI h61 (hR h61 x0 20) x1.toNatClampNeg) → Wp (d + 1) m_Mo_enter 97 [some (.ref x0), some (.int x1), some (.int x2), some (.long v42), none, some (.int v66)] [] h61 (QV K)))))))) else Ca d m_Mo_wrong [.ref x0, .int (0 : Int32)] h0 (QV (fun h67 => ((hS h67 x0).1 = 8 ∧ ((hS h67 (hR h67 x0 20)).1 = 20 ∧ (ainr x1 (hS h67 (hR h67 x0 20)).2 = true ∧ (∀ v72 : Int32, v72 = (hI h67 (hR h67 x0 20) x1.toNatClampNeg) → Wp (d + 1) m_Mo_enter 97 [some (.ref x0), some (.int x1), some (.int x2), some (.long v42), none, some (.int v72)] [] h67 (QV K))))))))))))))))) : Wp (d + 1) m_Mo_enter 37 [some (.ref x0), some (.int x1), some (.int x2), y3, y4, y5] [] h0 (QV K) := by
  refine V.aload_n d_Mo_enter_37 rfl ?_
  obtain ⟨g7, hq⟩ := hq
  refine V.get2 d_Mo_enter_38 rfl (List.mem_singleton.mpr g7) ?_
  refine V.iload_n d_Mo_enter_41 rfl ?_
  obtain ⟨g8, hq⟩ := hq
  obtain ⟨g9, hq⟩ := hq
  refine V.iaload d_Mo_enter_42 g8 g9 ?_
  refine V.if_ge (t := 50) d_Mo_enter_43 ⟨rfl, rfl⟩ (fun hc => ?_) (fun hc => ?_)
  · replace hq := ifp hc hq
    refine V.lconst (x := 0) d_Mo_enter_46 (by decide) ?_
    refine V.goto (t := 61) d_Mo_enter_47 ⟨rfl, rfl⟩ ?_
    refine V.lstore_n (l' := [_, _, _, _, _, _]) d_Mo_enter_61 rfl (ltb rfl) ?_
    refine V.aload_n d_Mo_enter_62 rfl ?_
    refine V.iload_n d_Mo_enter_63 rfl ?_
    refine V.bipush (x := 42) d_Mo_enter_64 (by decide) ?_
    refine V.ic_eq (t := 75) d_Mo_enter_66 ⟨rfl, rfl⟩ (fun hc => ?_) (fun hc => ?_)
    · replace hq := ifp hc hq
      refine V.lload_n d_Mo_enter_75 rfl ?_
      refine V.lconst (x := 0) d_Mo_enter_76 (by decide) ?_
      refine V.lc_ge d_Mo_enter_77 d_Mo_enter_78 ⟨rfl, rfl⟩ (fun hc => ?_) (fun hc => ?_)
      · replace hq := ifp hc hq
        refine V.iconst (x := 1) d_Mo_enter_81 (by decide) ?_
        refine V.goto (t := 86) d_Mo_enter_82 ⟨rfl, rfl⟩ ?_
        refine V.callV d_Mo_enter_86 (cV_call (t := [_]) (rs := []) rfl (Or.inl rfl) rfl (lk1 g7) ⟨leb rfl, leb rfl⟩) hq (fun h10 hq => ?_)
        refine V.aload_n d_Mo_enter_89 rfl ?_
        obtain ⟨g12, hq⟩ := hq
        refine V.get2 d_Mo_enter_90 rfl (List.mem_singleton.mpr g12) ?_
        refine V.iload_n d_Mo_enter_93 rfl ?_
        obtain ⟨g13, hq⟩ := hq
        obtain ⟨g14, hq⟩ := hq
        refine V.iaload d_Mo_enter_94 g13 g14 ?_
        replace hq := hq _ rfl
        refine V.istore (l' := [_, _, _, _, _, _]) d_Mo_enter_95 rfl (ltb rfl) ?_
        exact hq
      · replace hq := ifn hc hq
        refine V.iconst (x := 0) d_Mo_enter_85 (by decide) ?_
        refine V.callV d_Mo_enter_86 (cV_call (t := [_]) (rs := []) rfl (Or.inl rfl) rfl (lk1 g7) ⟨leb rfl, leb rfl⟩) hq (fun h16 hq => ?_)
        refine V.aload_n d_Mo_enter_89 rfl ?_
        obtain ⟨g18, hq⟩ := hq
        refine V.get2 d_Mo_enter_90 rfl (List.mem_singleton.mpr g18) ?_
        refine V.iload_n d_Mo_enter_93 rfl ?_
        obtain ⟨g19, hq⟩ := hq
        obtain ⟨g20, hq⟩ := hq
        refine V.iaload d_Mo_enter_94 g19 g20 ?_
        replace hq := hq _ rfl
        refine V.istore (l' := [_, _, _, _, _, _]) d_Mo_enter_95 rfl (ltb rfl) ?_
        exact hq
    · replace hq := ifn hc hq
      refine V.iload_n d_Mo_enter_69 rfl ?_
      refine V.bipush (x := 47) d_Mo_enter_70 (by decide) ?_
      refine V.ic_ne (t := 85) d_Mo_enter_72 ⟨rfl, rfl⟩ (fun hc => ?_) (fun hc => ?_)
      · replace hq := ifp hc hq
        refine V.lload_n d_Mo_enter_75 rfl ?_
        refine V.lconst (x := 0) d_Mo_enter_76 (by decide) ?_
        refine V.lc_ge d_Mo_enter_77 d_Mo_enter_78 ⟨rfl, rfl⟩ (fun hc => ?_) (fun hc => ?_)
        · replace hq := ifp hc hq
          refine V.iconst (x := 1) d_Mo_enter_81 (by decide) ?_
          refine V.goto (t := 86) d_Mo_enter_82 ⟨rfl, rfl⟩ ?_
          refine V.callV d_Mo_enter_86 (cV_call (t := [_]) (rs := []) rfl (Or.inl rfl) rfl (lk1 g7) ⟨leb rfl, leb rfl⟩) hq (fun h22 hq => ?_)
          refine V.aload_n d_Mo_enter_89 rfl ?_
          obtain ⟨g24, hq⟩ := hq
          refine V.get2 d_Mo_enter_90 rfl (List.mem_singleton.mpr g24) ?_
          refine V.iload_n d_Mo_enter_93 rfl ?_
          obtain ⟨g25, hq⟩ := hq
          obtain ⟨g26, hq⟩ := hq
          refine V.iaload d_Mo_enter_94 g25 g26 ?_
          replace hq := hq _ rfl
          refine V.istore (l' := [_, _, _, _, _, _]) d_Mo_enter_95 rfl (ltb rfl) ?_
          exact hq
        · replace hq := ifn hc hq
          refine V.iconst (x := 0) d_Mo_enter_85 (by decide) ?_
          refine V.callV d_Mo_enter_86 (cV_call (t := [_]) (rs := []) rfl (Or.inl rfl) rfl (lk1 g7) ⟨leb rfl, leb rfl⟩) hq (fun h28 hq => ?_)
          refine V.aload_n d_Mo_enter_89 rfl ?_
          obtain ⟨g30, hq⟩ := hq
          refine V.get2 d_Mo_enter_90 rfl (List.mem_singleton.mpr g30) ?_
          refine V.iload_n d_Mo_enter_93 rfl ?_
          obtain ⟨g31, hq⟩ := hq
          obtain ⟨g32, hq⟩ := hq
          refine V.iaload d_Mo_enter_94 g31 g32 ?_
          replace hq := hq _ rfl
          refine V.istore (l' := [_, _, _, _, _, _]) d_Mo_enter_95 rfl (ltb rfl) ?_
          exact hq
      · replace hq := ifn hc hq
        refine V.iconst (x := 0) d_Mo_enter_85 (by decide) ?_
        refine V.callV d_Mo_enter_86 (cV_call (t := [_]) (rs := []) rfl (Or.inl rfl) rfl (lk1 g7) ⟨leb rfl, leb rfl⟩) hq (fun h34 hq => ?_)
        refine V.aload_n d_Mo_enter_89 rfl ?_
        obtain ⟨g36, hq⟩ := hq
        refine V.get2 d_Mo_enter_90 rfl (List.mem_singleton.mpr g36) ?_
        refine V.iload_n d_Mo_enter_93 rfl ?_
        obtain ⟨g37, hq⟩ := hq
        obtain ⟨g38, hq⟩ := hq
        refine V.iaload d_Mo_enter_94 g37 g38 ?_
        replace hq := hq _ rfl
        refine V.istore (l' := [_, _, _, _, _, _]) d_Mo_enter_95 rfl (ltb rfl) ?_
        exact hq
  · replace hq := ifn hc hq
    refine V.aload_n d_Mo_enter_50 rfl ?_
    refine V.get2 d_Mo_enter_51 rfl (List.mem_singleton.mpr g7) ?_
    refine V.aload_n d_Mo_enter_54 rfl ?_
    refine V.get2 d_Mo_enter_55 rfl (List.mem_singleton.mpr g7) ?_
    refine V.iload_n d_Mo_enter_58 rfl ?_
    refine V.iaload d_Mo_enter_59 g8 g9 ?_
    obtain ⟨g40, hq⟩ := hq
    obtain ⟨g41, hq⟩ := hq
    refine V.laload d_Mo_enter_60 g40 g41 ?_
    replace hq := hq _ rfl
    refine V.lstore_n (l' := [_, _, _, _, _, _]) d_Mo_enter_61 rfl (ltb rfl) ?_
    refine V.aload_n d_Mo_enter_62 rfl ?_
    refine V.iload_n d_Mo_enter_63 rfl ?_
    refine V.bipush (x := 42) d_Mo_enter_64 (by decide) ?_
    refine V.ic_eq (t := 75) d_Mo_enter_66 ⟨rfl, rfl⟩ (fun hc => ?_) (fun hc => ?_)
    · replace hq := ifp hc hq
      refine V.lload_n d_Mo_enter_75 rfl ?_
      refine V.lconst (x := 0) d_Mo_enter_76 (by decide) ?_
      refine V.lc_ge d_Mo_enter_77 d_Mo_enter_78 ⟨rfl, rfl⟩ (fun hc => ?_) (fun hc => ?_)
      · replace hq := ifp hc hq
        refine V.iconst (x := 1) d_Mo_enter_81 (by decide) ?_
        refine V.goto (t := 86) d_Mo_enter_82 ⟨rfl, rfl⟩ ?_
        refine V.callV d_Mo_enter_86 (cV_call (t := [_]) (rs := []) rfl (Or.inl rfl) rfl (lk1 g7) ⟨leb rfl, leb rfl⟩) hq (fun h43 hq => ?_)
        refine V.aload_n d_Mo_enter_89 rfl ?_
        obtain ⟨g45, hq⟩ := hq
        refine V.get2 d_Mo_enter_90 rfl (List.mem_singleton.mpr g45) ?_
        refine V.iload_n d_Mo_enter_93 rfl ?_
        obtain ⟨g46, hq⟩ := hq
        obtain ⟨g47, hq⟩ := hq
        refine V.iaload d_Mo_enter_94 g46 g47 ?_
        replace hq := hq _ rfl
        refine V.istore (l' := [_, _, _, _, _, _]) d_Mo_enter_95 rfl (ltb rfl) ?_
        exact hq
      · replace hq := ifn hc hq
        refine V.iconst (x := 0) d_Mo_enter_85 (by decide) ?_
        refine V.callV d_Mo_enter_86 (cV_call (t := [_]) (rs := []) rfl (Or.inl rfl) rfl (lk1 g7) ⟨leb rfl, leb rfl⟩) hq (fun h49 hq => ?_)
        refine V.aload_n d_Mo_enter_89 rfl ?_
        obtain ⟨g51, hq⟩ := hq
        refine V.get2 d_Mo_enter_90 rfl (List.mem_singleton.mpr g51) ?_
        refine V.iload_n d_Mo_enter_93 rfl ?_
        obtain ⟨g52, hq⟩ := hq
        obtain ⟨g53, hq⟩ := hq
        refine V.iaload d_Mo_enter_94 g52 g53 ?_
        replace hq := hq _ rfl
        refine V.istore (l' := [_, _, _, _, _, _]) d_Mo_enter_95 rfl (ltb rfl) ?_
        exact hq
    · replace hq := ifn hc hq
      refine V.iload_n d_Mo_enter_69 rfl ?_
      refine V.bipush (x := 47) d_Mo_enter_70 (by decide) ?_
      refine V.ic_ne (t := 85) d_Mo_enter_72 ⟨rfl, rfl⟩ (fun hc => ?_) (fun hc => ?_)
      · replace hq := ifp hc hq
        refine V.lload_n d_Mo_enter_75 rfl ?_
        refine V.lconst (x := 0) d_Mo_enter_76 (by decide) ?_
        refine V.lc_ge d_Mo_enter_77 d_Mo_enter_78 ⟨rfl, rfl⟩ (fun hc => ?_) (fun hc => ?_)
        · replace hq := ifp hc hq
          refine V.iconst (x := 1) d_Mo_enter_81 (by decide) ?_
          refine V.goto (t := 86) d_Mo_enter_82 ⟨rfl, rfl⟩ ?_
          refine V.callV d_Mo_enter_86 (cV_call (t := [_]) (rs := []) rfl (Or.inl rfl) rfl (lk1 g7) ⟨leb rfl, leb rfl⟩) hq (fun h55 hq => ?_)
          refine V.aload_n d_Mo_enter_89 rfl ?_
          obtain ⟨g57, hq⟩ := hq
          refine V.get2 d_Mo_enter_90 rfl (List.mem_singleton.mpr g57) ?_
          refine V.iload_n d_Mo_enter_93 rfl ?_
          obtain ⟨g58, hq⟩ := hq
          obtain ⟨g59, hq⟩ := hq
          refine V.iaload d_Mo_enter_94 g58 g59 ?_
          replace hq := hq _ rfl
          refine V.istore (l' := [_, _, _, _, _, _]) d_Mo_enter_95 rfl (ltb rfl) ?_
          exact hq
        · replace hq := ifn hc hq
          refine V.iconst (x := 0) d_Mo_enter_85 (by decide) ?_
          refine V.callV d_Mo_enter_86 (cV_call (t := [_]) (rs := []) rfl (Or.inl rfl) rfl (lk1 g7) ⟨leb rfl, leb rfl⟩) hq (fun h61 hq => ?_)
          refine V.aload_n d_Mo_enter_89 rfl ?_
          obtain ⟨g63, hq⟩ := hq
          refine V.get2 d_Mo_enter_90 rfl (List.mem_singleton.mpr g63) ?_
          refine V.iload_n d_Mo_enter_93 rfl ?_
          obtain ⟨g64, hq⟩ := hq
          obtain ⟨g65, hq⟩ := hq
          refine V.iaload d_Mo_enter_94 g64 g65 ?_
          replace hq := hq _ rfl
          refine V.istore (l' := [_, _, _, _, _, _]) d_Mo_enter_95 rfl (ltb rfl) ?_
          exact hq
      · replace hq := ifn hc hq
        refine V.iconst (x := 0) d_Mo_enter_85 (by decide) ?_
        refine V.callV d_Mo_enter_86 (cV_call (t := [_]) (rs := []) rfl (Or.inl rfl) rfl (lk1 g7) ⟨leb rfl, leb rfl⟩) hq (fun h67 hq => ?_)
        refine V.aload_n d_Mo_enter_89 rfl ?_
        obtain ⟨g69, hq⟩ := hq
        refine V.get2 d_Mo_enter_90 rfl (List.mem_singleton.mpr g69) ?_
        refine V.iload_n d_Mo_enter_93 rfl ?_
        obtain ⟨g70, hq⟩ := hq
        obtain ⟨g71, hq⟩ := hq
        refine V.iaload d_Mo_enter_94 g70 g71 ?_
        replace hq := hq _ rfl
        refine V.istore (l' := [_, _, _, _, _, _]) d_Mo_enter_95 rfl (ltb rfl) ?_
        exact hq
theorem w_Mo_enter_97 {d : Nat} {K : Hp → Prop} {x0 : Nat} {x1 : Int32} {x2 : Int32} {x3 : Int64} {x5 : Int32} {h0 : Hp} (hq :
  (if x2 = (63 : Int32) then (if x5 < 0 then Wp (d + 1) m_Mo_enter 133 [some (.ref x0), some (.int x1), some (.int x2), some (.long x3), none, some (.int x5)] [] h0 (QV K) else ((hS h0 x0).1 = 8 ∧ ((hS h0 (hR h0 x0 18)).1 = 20 ∧ (ainr x5 (hS h0 (hR h0 x0 18)).2 = true ∧ (if ((hI h0 (hR h0 x0 18) x5.toNatClampNeg).toInt64) = x3 then Wp (d + 1) m_Mo_enter 133 [some (.ref x0), some (.int x1), some (.int x2), some (.long x3), none, some (.int x5)] [] h0 (QV K) else ((hS h0 (hR h0 x0 21)).1 = 20 ∧ (ainr x5 (hS h0 (hR h0 x0 21)).2 = true ∧ (∀ v78 : Int32, v78 = (hI h0 (hR h0 x0 21) x5.toNatClampNeg) → Wp (d + 1) m_Mo_enter 97 [some (.ref x0), some (.int x1), some (.int x2), some (.long x3), none, some (.int v78)] [] h0 (QV K))))))))) else Wp (d + 1) m_Mo_enter 133 [some (.ref x0), some (.int x1), some (.int x2), some (.long x3), none, some (.int x5)] [] h0 (QV K))) : Wp (d + 1) m_Mo_enter 97 [some (.ref x0), some (.int x1), some (.int x2), some (.long x3), none, some (.int x5)] [] h0 (QV K) := by
  refine V.iload_n d_Mo_enter_97 rfl ?_
  refine V.bipush (x := 63) d_Mo_enter_98 (by decide) ?_
  refine V.ic_ne (t := 133) d_Mo_enter_100 ⟨rfl, rfl⟩ (fun hc => ?_) (fun hc => ?_)
  · replace hq := ifp hc hq
    refine V.iload d_Mo_enter_103 rfl ?_
    refine V.if_lt (t := 133) d_Mo_enter_105 ⟨rfl, rfl⟩ (fun hc => ?_) (fun hc => ?_)
    · replace hq := ifp hc hq
      exact hq
    · replace hq := ifn hc hq
      refine V.aload_n d_Mo_enter_108 rfl ?_
      obtain ⟨g73, hq⟩ := hq
      refine V.get2 d_Mo_enter_109 rfl (List.mem_singleton.mpr g73) ?_
      refine V.iload d_Mo_enter_112 rfl ?_
      obtain ⟨g74, hq⟩ := hq
      obtain ⟨g75, hq⟩ := hq
      refine V.iaload d_Mo_enter_114 g74 g75 ?_
      refine V.i2l d_Mo_enter_115 ?_
      refine V.lload_n d_Mo_enter_116 rfl ?_
      refine V.lc_eq d_Mo_enter_117 d_Mo_enter_118 ⟨rfl, rfl⟩ (fun hc => ?_) (fun hc => ?_)
      · replace hq := ifp hc hq
        exact hq
      · replace hq := ifn hc hq
        refine V.aload_n d_Mo_enter_121 rfl ?_
        refine V.get2 d_Mo_enter_122 rfl (List.mem_singleton.mpr g73) ?_
        refine V.iload d_Mo_enter_125 rfl ?_
        obtain ⟨g76, hq⟩ := hq
        obtain ⟨g77, hq⟩ := hq
        refine V.iaload d_Mo_enter_127 g76 g77 ?_
        replace hq := hq _ rfl
        refine V.istore (l' := [_, _, _, _, _, _]) d_Mo_enter_128 rfl (ltb rfl) ?_
        refine V.goto (t := 97) d_Mo_enter_130 ⟨rfl, rfl⟩ ?_
        exact hq
  · replace hq := ifn hc hq
    exact hq
set_option maxRecDepth 100000 in
theorem w_Mo_enter_133 {d : Nat} {K : Hp → Prop} {x0 : Nat} {x1 : Int32} {x2 : Int32} {x3 : Int64} {x5 : Int32} {h0 : Hp} (hq :
  (if x2 = (63 : Int32) then (if x5 < 0 then ((hS h0 x0).1 = 8 ∧ Ca d m_Mo_wrong [.ref x0, .int (1 : Int32)] h0 (QV (fun h80 => ((hS h80 x0).1 = 8 ∧ ((hS h80 (hR h80 x0 35)).1 = 20 ∧ (¬ (hR h80 x0 35) = 1 ∧ (ainr (hI h80 x0 39) (hS h80 (hR h80 x0 35)).2 = true ∧ (∀ h86 : Hp, h86 = sI h80 (hR h80 x0 35) (hI h80 x0 39).toNatClampNeg x1 → ((hS h80 (hR h86 x0 36)).1 = 20 ∧ (¬ (hR h86 x0 36) = 1 ∧ (ainr (hI h86 x0 39) (hS h80 (hR h86 x0 36)).2 = true ∧ (∀ h90 : Hp, h90 = sI h86 (hR h86 x0 36) (hI h86 x0 39).toNatClampNeg x5 → ((hS h80 (hR h90 x0 37)).1 = 21 ∧ (¬ (hR h90 x0 37) = 1 ∧ (ainr (hI h90 x0 39) (hS h80 (hR h90 x0 37)).2 = true ∧ (∀ h94 : Hp, h94 = sL h90 (hR h90 x0 37) (hI h90 x0 39).toNatClampNeg x3 → ((hS h80 (hR h94 x0 38)).1 = 20 ∧ (¬ (hR h94 x0 38) = 1 ∧ (ainr (hI h94 x0 39) (hS h80 (hR h94 x0 38)).2 = true ∧ (∀ h98 : Hp, h98 = sI h94 (hR h94 x0 38) (hI h94 x0 39).toNatClampNeg (hI h94 x0 42) → (∀ h99 : Hp, h99 = sI h98 x0 39 ((hI h98 x0 39) + (1 : Int32)) → K h99))))))))))))))))))))) else ((hS h0 x0).1 = 8 ∧ Ca d m_Mo_wrong [.ref x0, .int (0 : Int32)] h0 (QV (fun h101 => ((hS h101 x0).1 = 8 ∧ ((hS h101 (hR h101 x0 35)).1 = 20 ∧ (¬ (hR h101 x0 35) = 1 ∧ (ainr (hI h101 x0 39) (hS h101 (hR h101 x0 35)).2 = true ∧ (∀ h107 : Hp, h107 = sI h101 (hR h101 x0 35) (hI h101 x0 39).toNatClampNeg x1 → ((hS h101 (hR h107 x0 36)).1 = 20 ∧ (¬ (hR h107 x0 36) = 1 ∧ (ainr (hI h107 x0 39) (hS h101 (hR h107 x0 36)).2 = true ∧ (∀ h111 : Hp, h111 = sI h107 (hR h107 x0 36) (hI h107 x0 39).toNatClampNeg x5 → ((hS h101 (hR h111 x0 37)).1 = 21 ∧ (¬ (hR h111 x0 37) = 1 ∧ (ainr (hI h111 x0 39) (hS h101 (hR h111 x0 37)).2 = true ∧ (∀ h115 : Hp, h115 = sL h111 (hR h111 x0 37) (hI h111 x0 39).toNatClampNeg x3 → ((hS h101 (hR h115 x0 38)).1 = 20 ∧ (¬ (hR h115 x0 38) = 1 ∧ (ainr (hI h115 x0 39) (hS h101 (hR h115 x0 38)).2 = true ∧ (∀ h119 : Hp, h119 = sI h115 (hR h115 x0 38) (hI h115 x0 39).toNatClampNeg (hI h115 x0 42) → (∀ h120 : Hp, h120 = sI h119 x0 39 ((hI h119 x0 39) + (1 : Int32)) → K h120)))))))))))))))))))))) else ((hS h0 x0).1 = 8 ∧ Ca d m_Mo_wrong [.ref x0, .int (0 : Int32)] h0 (QV (fun h122 => ((hS h122 x0).1 = 8 ∧ ((hS h122 (hR h122 x0 35)).1 = 20 ∧ (¬ (hR h122 x0 35) = 1 ∧ (ainr (hI h122 x0 39) (hS h122 (hR h122 x0 35)).2 = true ∧ (∀ h128 : Hp, h128 = sI h122 (hR h122 x0 35) (hI h122 x0 39).toNatClampNeg x1 → ((hS h122 (hR h128 x0 36)).1 = 20 ∧ (¬ (hR h128 x0 36) = 1 ∧ (ainr (hI h128 x0 39) (hS h122 (hR h128 x0 36)).2 = true ∧ (∀ h132 : Hp, h132 = sI h128 (hR h128 x0 36) (hI h128 x0 39).toNatClampNeg x5 → ((hS h122 (hR h132 x0 37)).1 = 21 ∧ (¬ (hR h132 x0 37) = 1 ∧ (ainr (hI h132 x0 39) (hS h122 (hR h132 x0 37)).2 = true ∧ (∀ h136 : Hp, h136 = sL h132 (hR h132 x0 37) (hI h132 x0 39).toNatClampNeg x3 → ((hS h122 (hR h136 x0 38)).1 = 20 ∧ (¬ (hR h136 x0 38) = 1 ∧ (ainr (hI h136 x0 39) (hS h122 (hR h136 x0 38)).2 = true ∧ (∀ h140 : Hp, h140 = sI h136 (hR h136 x0 38) (hI h136 x0 39).toNatClampNeg (hI h136 x0 42) → (∀ h141 : Hp, h141 = sI h140 x0 39 ((hI h140 x0 39) + (1 : Int32)) → K h141))))))))))))))))))))))) : Wp (d + 1) m_Mo_enter 133 [some (.ref x0), some (.int x1), some (.int x2), some (.long x3), none, some (.int x5)] [] h0 (QV K) := by
  refine V.aload_n d_Mo_enter_133 rfl ?_
  refine V.iload_n d_Mo_enter_134 rfl ?_
  refine V.bipush (x := 63) d_Mo_enter_135 (by decide) ?_
  refine V.ic_ne (t := 149) d_Mo_enter_137 ⟨rfl, rfl⟩ (fun hc => ?_) (fun hc => ?_)
  · replace hq := ifp hc hq
    refine V.iload d_Mo_enter_140 rfl ?_
    refine V.if_ge (t := 149) d_Mo_enter_142 ⟨rfl, rfl⟩ (fun hc => ?_) (fun hc => ?_)
    · replace hq := ifp hc hq
      refine V.iconst (x := 1) d_Mo_enter_145 (by decide) ?_
      refine V.goto (t := 150) d_Mo_enter_146 ⟨rfl, rfl⟩ ?_
      obtain ⟨g79, hq⟩ := hq
      refine V.callV d_Mo_enter_150 (cV_call (t := [_]) (rs := []) rfl (Or.inl rfl) rfl (lk1 g79) ⟨leb rfl, leb rfl⟩) hq (fun h80 hq => ?_)
      refine V.aload_n d_Mo_enter_153 rfl ?_
      obtain ⟨g82, hq⟩ := hq
      refine V.get2 d_Mo_enter_154 rfl (List.mem_singleton.mpr g82) ?_
      refine V.aload_n d_Mo_enter_157 rfl ?_
      refine V.get0 d_Mo_enter_158 rfl (List.mem_singleton.mpr g82) ?_
      refine V.iload_n d_Mo_enter_161 rfl ?_
      obtain ⟨g83, hq⟩ := hq
      obtain ⟨g84, hq⟩ := hq
      obtain ⟨g85, hq⟩ := hq
      refine V.iastore d_Mo_enter_162 g83 g84 g85 ?_
      replace hq := hq _ rfl
      refine V.aload_n d_Mo_enter_163 rfl ?_
      refine V.get2 d_Mo_enter_164 rfl (List.mem_singleton.mpr g82) ?_
      refine V.aload_n d_Mo_enter_167 rfl ?_
      refine V.get0 d_Mo_enter_168 rfl (List.mem_singleton.mpr g82) ?_
      refine V.iload d_Mo_enter_171 rfl ?_
      obtain ⟨g87, hq⟩ := hq
      obtain ⟨g88, hq⟩ := hq
      obtain ⟨g89, hq⟩ := hq
      refine V.iastore d_Mo_enter_173 g87 g88 g89 ?_
      replace hq := hq _ rfl
      refine V.aload_n d_Mo_enter_174 rfl ?_
      refine V.get2 d_Mo_enter_175 rfl (List.mem_singleton.mpr g82) ?_
      refine V.aload_n d_Mo_enter_178 rfl ?_
      refine V.get0 d_Mo_enter_179 rfl (List.mem_singleton.mpr g82) ?_
      refine V.lload_n d_Mo_enter_182 rfl ?_
      obtain ⟨g91, hq⟩ := hq
      obtain ⟨g92, hq⟩ := hq
      obtain ⟨g93, hq⟩ := hq
      refine V.lastore d_Mo_enter_183 g91 g92 g93 ?_
      replace hq := hq _ rfl
      refine V.aload_n d_Mo_enter_184 rfl ?_
      refine V.get2 d_Mo_enter_185 rfl (List.mem_singleton.mpr g82) ?_
      refine V.aload_n d_Mo_enter_188 rfl ?_
      refine V.get0 d_Mo_enter_189 rfl (List.mem_singleton.mpr g82) ?_
      refine V.aload_n d_Mo_enter_192 rfl ?_
      refine V.get0 d_Mo_enter_193 rfl (List.mem_singleton.mpr g82) ?_
      obtain ⟨g95, hq⟩ := hq
      obtain ⟨g96, hq⟩ := hq
      obtain ⟨g97, hq⟩ := hq
      refine V.iastore d_Mo_enter_196 g95 g96 g97 ?_
      replace hq := hq _ rfl
      refine V.aload_n d_Mo_enter_197 rfl ?_
      refine V.dupR d_Mo_enter_198 ?_
      refine V.get0 d_Mo_enter_199 rfl (List.mem_singleton.mpr g82) ?_
      refine V.iconst (x := 1) d_Mo_enter_202 (by decide) ?_
      refine V.iadd d_Mo_enter_203 ?_
      refine V.put0 d_Mo_enter_204 rfl (Or.inl rfl) (List.mem_singleton.mpr g82) ?_
      replace hq := hq _ rfl
      refine V.vret d_Mo_enter_207 rfl ?_
      exact V.rV hq
    · replace hq := ifn hc hq
      refine V.iconst (x := 0) d_Mo_enter_149 (by decide) ?_
      obtain ⟨g100, hq⟩ := hq
      refine V.callV d_Mo_enter_150 (cV_call (t := [_]) (rs := []) rfl (Or.inl rfl) rfl (lk1 g100) ⟨leb rfl, leb rfl⟩) hq (fun h101 hq => ?_)
      refine V.aload_n d_Mo_enter_153 rfl ?_
      obtain ⟨g103, hq⟩ := hq
      refine V.get2 d_Mo_enter_154 rfl (List.mem_singleton.mpr g103) ?_
      refine V.aload_n d_Mo_enter_157 rfl ?_
      refine V.get0 d_Mo_enter_158 rfl (List.mem_singleton.mpr g103) ?_
      refine V.iload_n d_Mo_enter_161 rfl ?_
      obtain ⟨g104, hq⟩ := hq
      obtain ⟨g105, hq⟩ := hq
      obtain ⟨g106, hq⟩ := hq
      refine V.iastore d_Mo_enter_162 g104 g105 g106 ?_
      replace hq := hq _ rfl
      refine V.aload_n d_Mo_enter_163 rfl ?_
      refine V.get2 d_Mo_enter_164 rfl (List.mem_singleton.mpr g103) ?_
      refine V.aload_n d_Mo_enter_167 rfl ?_
      refine V.get0 d_Mo_enter_168 rfl (List.mem_singleton.mpr g103) ?_
      refine V.iload d_Mo_enter_171 rfl ?_
      obtain ⟨g108, hq⟩ := hq
      obtain ⟨g109, hq⟩ := hq
      obtain ⟨g110, hq⟩ := hq
      refine V.iastore d_Mo_enter_173 g108 g109 g110 ?_
      replace hq := hq _ rfl
      refine V.aload_n d_Mo_enter_174 rfl ?_
      refine V.get2 d_Mo_enter_175 rfl (List.mem_singleton.mpr g103) ?_
      refine V.aload_n d_Mo_enter_178 rfl ?_
      refine V.get0 d_Mo_enter_179 rfl (List.mem_singleton.mpr g103) ?_
      refine V.lload_n d_Mo_enter_182 rfl ?_
      obtain ⟨g112, hq⟩ := hq
      obtain ⟨g113, hq⟩ := hq
      obtain ⟨g114, hq⟩ := hq
      refine V.lastore d_Mo_enter_183 g112 g113 g114 ?_
      replace hq := hq _ rfl
      refine V.aload_n d_Mo_enter_184 rfl ?_
      refine V.get2 d_Mo_enter_185 rfl (List.mem_singleton.mpr g103) ?_
      refine V.aload_n d_Mo_enter_188 rfl ?_
      refine V.get0 d_Mo_enter_189 rfl (List.mem_singleton.mpr g103) ?_
      refine V.aload_n d_Mo_enter_192 rfl ?_
      refine V.get0 d_Mo_enter_193 rfl (List.mem_singleton.mpr g103) ?_
      obtain ⟨g116, hq⟩ := hq
      obtain ⟨g117, hq⟩ := hq
      obtain ⟨g118, hq⟩ := hq
      refine V.iastore d_Mo_enter_196 g116 g117 g118 ?_
      replace hq := hq _ rfl
      refine V.aload_n d_Mo_enter_197 rfl ?_
      refine V.dupR d_Mo_enter_198 ?_
      refine V.get0 d_Mo_enter_199 rfl (List.mem_singleton.mpr g103) ?_
      refine V.iconst (x := 1) d_Mo_enter_202 (by decide) ?_
      refine V.iadd d_Mo_enter_203 ?_
      refine V.put0 d_Mo_enter_204 rfl (Or.inl rfl) (List.mem_singleton.mpr g103) ?_
      replace hq := hq _ rfl
      refine V.vret d_Mo_enter_207 rfl ?_
      exact V.rV hq
  · replace hq := ifn hc hq
    refine V.iconst (x := 0) d_Mo_enter_149 (by decide) ?_
    obtain ⟨g121, hq⟩ := hq
    refine V.callV d_Mo_enter_150 (cV_call (t := [_]) (rs := []) rfl (Or.inl rfl) rfl (lk1 g121) ⟨leb rfl, leb rfl⟩) hq (fun h122 hq => ?_)
    refine V.aload_n d_Mo_enter_153 rfl ?_
    obtain ⟨g124, hq⟩ := hq
    refine V.get2 d_Mo_enter_154 rfl (List.mem_singleton.mpr g124) ?_
    refine V.aload_n d_Mo_enter_157 rfl ?_
    refine V.get0 d_Mo_enter_158 rfl (List.mem_singleton.mpr g124) ?_
    refine V.iload_n d_Mo_enter_161 rfl ?_
    obtain ⟨g125, hq⟩ := hq
    obtain ⟨g126, hq⟩ := hq
    obtain ⟨g127, hq⟩ := hq
    refine V.iastore d_Mo_enter_162 g125 g126 g127 ?_
    replace hq := hq _ rfl
    refine V.aload_n d_Mo_enter_163 rfl ?_
    refine V.get2 d_Mo_enter_164 rfl (List.mem_singleton.mpr g124) ?_
    refine V.aload_n d_Mo_enter_167 rfl ?_
    refine V.get0 d_Mo_enter_168 rfl (List.mem_singleton.mpr g124) ?_
    refine V.iload d_Mo_enter_171 rfl ?_
    obtain ⟨g129, hq⟩ := hq
    obtain ⟨g130, hq⟩ := hq
    obtain ⟨g131, hq⟩ := hq
    refine V.iastore d_Mo_enter_173 g129 g130 g131 ?_
    replace hq := hq _ rfl
    refine V.aload_n d_Mo_enter_174 rfl ?_
    refine V.get2 d_Mo_enter_175 rfl (List.mem_singleton.mpr g124) ?_
    refine V.aload_n d_Mo_enter_178 rfl ?_
    refine V.get0 d_Mo_enter_179 rfl (List.mem_singleton.mpr g124) ?_
    refine V.lload_n d_Mo_enter_182 rfl ?_
    obtain ⟨g133, hq⟩ := hq
    obtain ⟨g134, hq⟩ := hq
    obtain ⟨g135, hq⟩ := hq
    refine V.lastore d_Mo_enter_183 g133 g134 g135 ?_
    replace hq := hq _ rfl
    refine V.aload_n d_Mo_enter_184 rfl ?_
    refine V.get2 d_Mo_enter_185 rfl (List.mem_singleton.mpr g124) ?_
    refine V.aload_n d_Mo_enter_188 rfl ?_
    refine V.get0 d_Mo_enter_189 rfl (List.mem_singleton.mpr g124) ?_
    refine V.aload_n d_Mo_enter_192 rfl ?_
    refine V.get0 d_Mo_enter_193 rfl (List.mem_singleton.mpr g124) ?_
    obtain ⟨g137, hq⟩ := hq
    obtain ⟨g138, hq⟩ := hq
    obtain ⟨g139, hq⟩ := hq
    refine V.iastore d_Mo_enter_196 g137 g138 g139 ?_
    replace hq := hq _ rfl
    refine V.aload_n d_Mo_enter_197 rfl ?_
    refine V.dupR d_Mo_enter_198 ?_
    refine V.get0 d_Mo_enter_199 rfl (List.mem_singleton.mpr g124) ?_
    refine V.iconst (x := 1) d_Mo_enter_202 (by decide) ?_
    refine V.iadd d_Mo_enter_203 ?_
    refine V.put0 d_Mo_enter_204 rfl (Or.inl rfl) (List.mem_singleton.mpr g124) ?_
    replace hq := hq _ rfl
    refine V.vret d_Mo_enter_207 rfl ?_
    exact V.rV hq
set_option maxRecDepth 100000 in
theorem w_Mo_goOn {d : Nat} {K : Hp → Prop} {x0 : Nat} {h0 : Hp} (hq :
  ((hS h0 x0).1 = 8 ∧ (∀ v2 : Int32, v2 = ((hI h0 x0 39) - (1 : Int32)) → ((hS h0 (hR h0 x0 35)).1 = 20 ∧ (ainr v2 (hS h0 (hR h0 x0 35)).2 = true ∧ (∀ v5 : Int32, v5 = (hI h0 (hR h0 x0 35) v2.toNatClampNeg) → ((hS h0 (hR h0 x0 12)).1 = 20 ∧ (ainr v5 (hS h0 (hR h0 x0 12)).2 = true ∧ (∀ v8 : Int32, v8 = (hI h0 (hR h0 x0 12) v5.toNatClampNeg) → (if v8 = (123 : Int32) then ((hS h0 (hR h0 x0 36)).1 = 20 ∧ (ainr v2 (hS h0 (hR h0 x0 36)).2 = true ∧ (∀ v11 : Int32, v11 = (hI h0 (hR h0 x0 36) v2.toNatClampNeg) → (if v11 < 0 then Ca d m_Mo_rest [.ref x0] h0 (QV (fun h12 => ((hS h12 x0).1 = 8 ∧ (∀ h15 : Hp, h15 = sI h12 x0 39 ((hI h12 x0 39) - (1 : Int32)) → K h15)))) else ((hS h0 (hR h0 x0 21)).1 = 20 ∧ (ainr v11 (hS h0 (hR h0 x0 21)).2 = true ∧ (¬ (hR h0 x0 36) = 1 ∧ (∀ h19 : Hp, h19 = sI h0 (hR h0 x0 36) v2.toNatClampNeg (hI h0 (hR h0 x0 21) v11.toNatClampNeg) → Ca d m_Mo_enter [.ref x0, .int v11] h19 (QV (fun h20 => K h20)))))))))) else (if v8 = (42 : Int32) then ((hS h0 (hR h0 x0 37)).1 = 21 ∧ (ainr v2 (hS h0 (hR h0 x0 37)).2 = true ∧ (¬ (hR h0 x0 37) = 1 ∧ (∀ h25 : Hp, h25 = sL h0 (hR h0 x0 37) v2.toNatClampNeg ((hL h0 (hR h0 x0 37) v2.toNatClampNeg) - (1 : Int64)) → ((hS h0 (hR h25 x0 37)).1 = 21 ∧ (ainr v2 (hS h0 (hR h25 x0 37)).2 = true ∧ (if (hL h25 (hR h25 x0 37) v2.toNatClampNeg) < (0 : Int64) then (∀ h28 : Hp, h28 = sI h25 x0 39 ((hI h25 x0 39) - (1 : Int32)) → K h28) else ((hS h0 (hR h25 x0 20)).1 = 20 ∧ (ainr v5 (hS h0 (hR h25 x0 20)).2 = true ∧ Ca d m_Mo_enter [.ref x0, .int (hI h25 (hR h25 x0 20) v5.toNatClampNeg)] h25 (QV (fun h31 => K h31))))))))))) else (if v8 = (47 : Int32) then ((hS h0 (hR h0 x0 38)).1 = 20 ∧ (ainr v2 (hS h0 (hR h0 x0 38)).2 = true ∧ ((hS h0 (hR h0 x0 37)).1 = 21 ∧ (ainr v2 (hS h0 (hR h0 x0 37)).2 = true ∧ (if (((hI h0 x0 42) - (hI h0 (hR h0 x0 38) v2.toNatClampNeg)).toInt64) < (hL h0 (hR h0 x0 37) v2.toNatClampNeg) then ((hS h0 (hR h0 x0 20)).1 = 20 ∧ (ainr v5 (hS h0 (hR h0 x0 20)).2 = true ∧ Ca d m_Mo_enter [.ref x0, .int (hI h0 (hR h0 x0 20) v5.toNatClampNeg)] h0 (QV (fun h39 => K h39)))) else (if (hL h0 (hR h0 x0 37) v2.toNatClampNeg) < (((hI h0 x0 42) - (hI h0 (hR h0 x0 38) v2.toNatClampNeg)).toInt64) then Ca d m_Mo_wrong [.ref x0, .int (1 : Int32)] h0 (QV (fun h41 => ((hS h41 x0).1 = 8 ∧ (∀ h44 : Hp, h44 = sI h41 x0 39 ((hI h41 x0 39) - (1 : Int32)) → K h44)))) else Ca d m_Mo_wrong [.ref x0, .int (0 : Int32)] h0 (QV (fun h45 => ((hS h45 x0).1 = 8 ∧ (∀ h48 : Hp, h48 = sI h45 x0 39 ((hI h45 x0 39) - (1 : Int32)) → K h48)))))))))) else ((hS h0 (hR h0 x0 36)).1 = 20 ∧ (ainr v2 (hS h0 (hR h0 x0 36)).2 = true ∧ (if (hI h0 (hR h0 x0 36) v2.toNatClampNeg) < 0 then (∀ h51 : Hp, h51 = sI h0 x0 39 ((hI h0 x0 39) - (1 : Int32)) → K h51) else (∀ v52 : Int32, v52 = (hI h0 (hR h0 x0 36) v2.toNatClampNeg) → (¬ (hR h0 x0 36) = 1 ∧ (∀ h54 : Hp, h54 = sI h0 (hR h0 x0 36) v2.toNatClampNeg (-1 : Int32) → Ca d m_Mo_enter [.ref x0, .int v52] h54 (QV (fun h55 => K h55)))))))))))))))))))) : Ca (d + 1) m_Mo_goOn [.ref x0] h0 (QV K) := by
  show Wp _ _ 0 [some (.ref x0), none, none, none, none] [] h0 _
  refine V.aload_n d_Mo_goOn_0 rfl ?_
  obtain ⟨g1, hq⟩ := hq
  refine V.get0 d_Mo_goOn_1 rfl (List.mem_singleton.mpr g1) ?_
  refine V.iconst (x := 1) d_Mo_goOn_4 (by decide) ?_
  refine V.isub d_Mo_goOn_5 ?_
  replace hq := hq _ rfl
  refine V.istore_n (l' := [_, _, _, _, _]) d_Mo_goOn_6 rfl (ltb rfl) ?_
  refine V.aload_n d_Mo_goOn_7 rfl ?_
  refine V.get2 d_Mo_goOn_8 rfl (List.mem_singleton.mpr g1) ?_
  refine V.iload_n d_Mo_goOn_11 rfl ?_
  obtain ⟨g3, hq⟩ := hq
  obtain ⟨g4, hq⟩ := hq
  refine V.iaload d_Mo_goOn_12 g3 g4 ?_
  replace hq := hq _ rfl
  refine V.istore_n (l' := [_, _, _, _, _]) d_Mo_goOn_13 rfl (ltb rfl) ?_
  refine V.aload_n d_Mo_goOn_14 rfl ?_
  refine V.get2 d_Mo_goOn_15 rfl (List.mem_singleton.mpr g1) ?_
  refine V.iload_n d_Mo_goOn_18 rfl ?_
  obtain ⟨g6, hq⟩ := hq
  obtain ⟨g7, hq⟩ := hq
  refine V.iaload d_Mo_goOn_19 g6 g7 ?_
  replace hq := hq _ rfl
  refine V.istore_n (l' := [_, _, _, _, _]) d_Mo_goOn_20 rfl (ltb rfl) ?_
  refine V.iload_n d_Mo_goOn_21 rfl ?_
  refine V.bipush (x := 123) d_Mo_goOn_22 (by decide) ?_
  refine V.ic_ne (t := 79) d_Mo_goOn_24 ⟨rfl, rfl⟩ (fun hc => ?_) (fun hc => ?_)
  · replace hq := ifp hc hq
    refine V.aload_n d_Mo_goOn_27 rfl ?_
    refine V.get2 d_Mo_goOn_28 rfl (List.mem_singleton.mpr g1) ?_
    refine V.iload_n d_Mo_goOn_31 rfl ?_
    obtain ⟨g9, hq⟩ := hq
    obtain ⟨g10, hq⟩ := hq
    refine V.iaload d_Mo_goOn_32 g9 g10 ?_
    replace hq := hq _ rfl
    refine V.istore (l' := [_, _, _, _, _]) d_Mo_goOn_33 rfl (ltb rfl) ?_
    refine V.iload d_Mo_goOn_35 rfl ?_
    refine V.if_ge (t := 57) d_Mo_goOn_37 ⟨rfl, rfl⟩ (fun hc => ?_) (fun hc => ?_)
    · replace hq := ifp hc hq
      refine V.aload_n d_Mo_goOn_40 rfl ?_
      refine V.callV d_Mo_goOn_41 (cV_call (t := []) (rs := []) rfl (Or.inl rfl) rfl (lk1 g1) ⟨leb rfl, leb rfl⟩) hq (fun h12 hq => ?_)
      refine V.aload_n d_Mo_goOn_44 rfl ?_
      refine V.dupR d_Mo_goOn_45 ?_
      obtain ⟨g14, hq⟩ := hq
      refine V.get0 d_Mo_goOn_46 rfl (List.mem_singleton.mpr g14) ?_
      refine V.iconst (x := 1) d_Mo_goOn_49 (by decide) ?_
      refine V.isub d_Mo_goOn_50 ?_
      refine V.put0 d_Mo_goOn_51 rfl (Or.inl rfl) (List.mem_singleton.mpr g14) ?_
      replace hq := hq _ rfl
      refine V.goto (t := 76) d_Mo_goOn_54 ⟨rfl, rfl⟩ ?_
      refine V.goto (t := 260) d_Mo_goOn_76 ⟨rfl, rfl⟩ ?_
      refine V.vret d_Mo_goOn_260 rfl ?_
      exact V.rV hq
    · replace hq := ifn hc hq
      refine V.aload_n d_Mo_goOn_57 rfl ?_
      refine V.get2 d_Mo_goOn_58 rfl (List.mem_singleton.mpr g1) ?_
      refine V.iload_n d_Mo_goOn_61 rfl ?_
      refine V.aload_n d_Mo_goOn_62 rfl ?_
      refine V.get2 d_Mo_goOn_63 rfl (List.mem_singleton.mpr g1) ?_
      refine V.iload d_Mo_goOn_66 rfl ?_
      obtain ⟨g16, hq⟩ := hq
      obtain ⟨g17, hq⟩ := hq
      refine V.iaload d_Mo_goOn_68 g16 g17 ?_
      obtain ⟨g18, hq⟩ := hq
      refine V.iastore d_Mo_goOn_69 g9 g18 g10 ?_
      replace hq := hq _ rfl
      refine V.aload_n d_Mo_goOn_70 rfl ?_
      refine V.iload d_Mo_goOn_71 rfl ?_
      refine V.callV d_Mo_goOn_73 (cV_call (t := [_]) (rs := []) rfl (Or.inl rfl) rfl (lk1 g1) ⟨leb rfl, leb rfl⟩) hq (fun h20 hq => ?_)
      refine V.goto (t := 260) d_Mo_goOn_76 ⟨rfl, rfl⟩ ?_
      refine V.vret d_Mo_goOn_260 rfl ?_
      exact V.rV hq
  · replace hq := ifn hc hq
    refine V.iload_n d_Mo_goOn_79 rfl ?_
    refine V.bipush (x := 42) d_Mo_goOn_80 (by decide) ?_
    refine V.ic_ne (t := 132) d_Mo_goOn_82 ⟨rfl, rfl⟩ (fun hc => ?_) (fun hc => ?_)
    · replace hq := ifp hc hq
      refine V.aload_n d_Mo_goOn_85 rfl ?_
      refine V.get2 d_Mo_goOn_86 rfl (List.mem_singleton.mpr g1) ?_
      refine V.iload_n d_Mo_goOn_89 rfl ?_
      refine V.dup2 d_Mo_goOn_90 ?_
      obtain ⟨g22, hq⟩ := hq
      obtain ⟨g23, hq⟩ := hq
      refine V.laload d_Mo_goOn_91 g22 g23 ?_
      refine V.lconst (x := 1) d_Mo_goOn_92 (by decide) ?_
      refine V.lsub d_Mo_goOn_93 ?_
      obtain ⟨g24, hq⟩ := hq
      refine V.lastore d_Mo_goOn_94 g22 g24 g23 ?_
      replace hq := hq _ rfl
      refine V.aload_n d_Mo_goOn_95 rfl ?_
      refine V.get2 d_Mo_goOn_96 rfl (List.mem_singleton.mpr g1) ?_
      refine V.iload_n d_Mo_goOn_99 rfl ?_
      obtain ⟨g26, hq⟩ := hq
      obtain ⟨g27, hq⟩ := hq
      refine V.laload d_Mo_goOn_100 g26 g27 ?_
      refine V.lconst (x := 0) d_Mo_goOn_101 (by decide) ?_
      refine V.lc_ge d_Mo_goOn_102 d_Mo_goOn_103 ⟨rfl, rfl⟩ (fun hc => ?_) (fun hc => ?_)
      · replace hq := ifp hc hq
        refine V.aload_n d_Mo_goOn_106 rfl ?_
        refine V.dupR d_Mo_goOn_107 ?_
        refine V.get0 d_Mo_goOn_108 rfl (List.mem_singleton.mpr g1) ?_
        refine V.iconst (x := 1) d_Mo_goOn_111 (by decide) ?_
        refine V.isub d_Mo_goOn_112 ?_
        refine V.put0 d_Mo_goOn_113 rfl (Or.inl rfl) (List.mem_singleton.mpr g1) ?_
        replace hq := hq _ rfl
        refine V.goto (t := 260) d_Mo_goOn_116 ⟨rfl, rfl⟩ ?_
        refine V.vret d_Mo_goOn_260 rfl ?_
        exact V.rV hq
      · replace hq := ifn hc hq
        refine V.aload_n d_Mo_goOn_119 rfl ?_
        refine V.aload_n d_Mo_goOn_120 rfl ?_
        refine V.get2 d_Mo_goOn_121 rfl (List.mem_singleton.mpr g1) ?_
        refine V.iload_n d_Mo_goOn_124 rfl ?_
        obtain ⟨g29, hq⟩ := hq
        obtain ⟨g30, hq⟩ := hq
        refine V.iaload d_Mo_goOn_125 g29 g30 ?_
        refine V.callV d_Mo_goOn_126 (cV_call (t := [_]) (rs := []) rfl (Or.inl rfl) rfl (lk1 g1) ⟨leb rfl, leb rfl⟩) hq (fun h31 hq => ?_)
        refine V.goto (t := 260) d_Mo_goOn_129 ⟨rfl, rfl⟩ ?_
        refine V.vret d_Mo_goOn_260 rfl ?_
        exact V.rV hq
    · replace hq := ifn hc hq
      refine V.iload_n d_Mo_goOn_132 rfl ?_
      refine V.bipush (x := 47) d_Mo_goOn_133 (by decide) ?_
      refine V.ic_ne (t := 217) d_Mo_goOn_135 ⟨rfl, rfl⟩ (fun hc => ?_) (fun hc => ?_)
      · replace hq := ifp hc hq
        refine V.aload_n d_Mo_goOn_138 rfl ?_
        refine V.get0 d_Mo_goOn_139 rfl (List.mem_singleton.mpr g1) ?_
        refine V.aload_n d_Mo_goOn_142 rfl ?_
        refine V.get2 d_Mo_goOn_143 rfl (List.mem_singleton.mpr g1) ?_
        refine V.iload_n d_Mo_goOn_146 rfl ?_
        obtain ⟨g33, hq⟩ := hq
        obtain ⟨g34, hq⟩ := hq
        refine V.iaload d_Mo_goOn_147 g33 g34 ?_
        refine V.isub d_Mo_goOn_148 ?_
        refine V.i2l d_Mo_goOn_149 ?_
        refine V.aload_n d_Mo_goOn_150 rfl ?_
        refine V.get2 d_Mo_goOn_151 rfl (List.mem_singleton.mpr g1) ?_
        refine V.iload_n d_Mo_goOn_154 rfl ?_
        obtain ⟨g35, hq⟩ := hq
        obtain ⟨g36, hq⟩ := hq
        refine V.laload d_Mo_goOn_155 g35 g36 ?_
        refine V.lc_ge d_Mo_goOn_156 d_Mo_goOn_157 ⟨rfl, rfl⟩ (fun hc => ?_) (fun hc => ?_)
        · replace hq := ifp hc hq
          refine V.aload_n d_Mo_goOn_160 rfl ?_
          refine V.aload_n d_Mo_goOn_161 rfl ?_
          refine V.get2 d_Mo_goOn_162 rfl (List.mem_singleton.mpr g1) ?_
          refine V.iload_n d_Mo_goOn_165 rfl ?_
          obtain ⟨g37, hq⟩ := hq
          obtain ⟨g38, hq⟩ := hq
          refine V.iaload d_Mo_goOn_166 g37 g38 ?_
          refine V.callV d_Mo_goOn_167 (cV_call (t := [_]) (rs := []) rfl (Or.inl rfl) rfl (lk1 g1) ⟨leb rfl, leb rfl⟩) hq (fun h39 hq => ?_)
          refine V.goto (t := 260) d_Mo_goOn_170 ⟨rfl, rfl⟩ ?_
          refine V.vret d_Mo_goOn_260 rfl ?_
          exact V.rV hq
        · replace hq := ifn hc hq
          refine V.aload_n d_Mo_goOn_173 rfl ?_
          refine V.aload_n d_Mo_goOn_174 rfl ?_
          refine V.get0 d_Mo_goOn_175 rfl (List.mem_singleton.mpr g1) ?_
          refine V.aload_n d_Mo_goOn_178 rfl ?_
          refine V.get2 d_Mo_goOn_179 rfl (List.mem_singleton.mpr g1) ?_
          refine V.iload_n d_Mo_goOn_182 rfl ?_
          refine V.iaload d_Mo_goOn_183 g33 g34 ?_
          refine V.isub d_Mo_goOn_184 ?_
          refine V.i2l d_Mo_goOn_185 ?_
          refine V.aload_n d_Mo_goOn_186 rfl ?_
          refine V.get2 d_Mo_goOn_187 rfl (List.mem_singleton.mpr g1) ?_
          refine V.iload_n d_Mo_goOn_190 rfl ?_
          refine V.laload d_Mo_goOn_191 g35 g36 ?_
          refine V.lc_le d_Mo_goOn_192 d_Mo_goOn_193 ⟨rfl, rfl⟩ (fun hc => ?_) (fun hc => ?_)
          · replace hq := ifp hc hq
            refine V.iconst (x := 1) d_Mo_goOn_196 (by decide) ?_
            refine V.goto (t := 201) d_Mo_goOn_197 ⟨rfl, rfl⟩ ?_
            refine V.callV d_Mo_goOn_201 (cV_call (t := [_]) (rs := []) rfl (Or.inl rfl) rfl (lk1 g1) ⟨leb rfl, leb rfl⟩) hq (fun h41 hq => ?_)
            refine V.aload_n d_Mo_goOn_204 rfl ?_
            refine V.dupR d_Mo_goOn_205 ?_
            obtain ⟨g43, hq⟩ := hq
            refine V.get0 d_Mo_goOn_206 rfl (List.mem_singleton.mpr g43) ?_
            refine V.iconst (x := 1) d_Mo_goOn_209 (by decide) ?_
            refine V.isub d_Mo_goOn_210 ?_
            refine V.put0 d_Mo_goOn_211 rfl (Or.inl rfl) (List.mem_singleton.mpr g43) ?_
            replace hq := hq _ rfl
            refine V.goto (t := 260) d_Mo_goOn_214 ⟨rfl, rfl⟩ ?_
            refine V.vret d_Mo_goOn_260 rfl ?_
            exact V.rV hq
          · replace hq := ifn hc hq
            refine V.iconst (x := 0) d_Mo_goOn_200 (by decide) ?_
            refine V.callV d_Mo_goOn_201 (cV_call (t := [_]) (rs := []) rfl (Or.inl rfl) rfl (lk1 g1) ⟨leb rfl, leb rfl⟩) hq (fun h45 hq => ?_)
            refine V.aload_n d_Mo_goOn_204 rfl ?_
            refine V.dupR d_Mo_goOn_205 ?_
            obtain ⟨g47, hq⟩ := hq
            refine V.get0 d_Mo_goOn_206 rfl (List.mem_singleton.mpr g47) ?_
            refine V.iconst (x := 1) d_Mo_goOn_209 (by decide) ?_
            refine V.isub d_Mo_goOn_210 ?_
            refine V.put0 d_Mo_goOn_211 rfl (Or.inl rfl) (List.mem_singleton.mpr g47) ?_
            replace hq := hq _ rfl
            refine V.goto (t := 260) d_Mo_goOn_214 ⟨rfl, rfl⟩ ?_
            refine V.vret d_Mo_goOn_260 rfl ?_
            exact V.rV hq
      · replace hq := ifn hc hq
        refine V.aload_n d_Mo_goOn_217 rfl ?_
        refine V.get2 d_Mo_goOn_218 rfl (List.mem_singleton.mpr g1) ?_
        refine V.iload_n d_Mo_goOn_221 rfl ?_
        obtain ⟨g49, hq⟩ := hq
        obtain ⟨g50, hq⟩ := hq
        refine V.iaload d_Mo_goOn_222 g49 g50 ?_
        refine V.if_ge (t := 239) d_Mo_goOn_223 ⟨rfl, rfl⟩ (fun hc => ?_) (fun hc => ?_)
        · replace hq := ifp hc hq
          refine V.aload_n d_Mo_goOn_226 rfl ?_
          refine V.dupR d_Mo_goOn_227 ?_
          refine V.get0 d_Mo_goOn_228 rfl (List.mem_singleton.mpr g1) ?_
          refine V.iconst (x := 1) d_Mo_goOn_231 (by decide) ?_
          refine V.isub d_Mo_goOn_232 ?_
          refine V.put0 d_Mo_goOn_233 rfl (Or.inl rfl) (List.mem_singleton.mpr g1) ?_
          replace hq := hq _ rfl
          refine V.goto (t := 260) d_Mo_goOn_236 ⟨rfl, rfl⟩ ?_
          refine V.vret d_Mo_goOn_260 rfl ?_
          exact V.rV hq
        · replace hq := ifn hc hq
          refine V.aload_n d_Mo_goOn_239 rfl ?_
          refine V.get2 d_Mo_goOn_240 rfl (List.mem_singleton.mpr g1) ?_
          refine V.iload_n d_Mo_goOn_243 rfl ?_
          refine V.iaload d_Mo_goOn_244 g49 g50 ?_
          replace hq := hq _ rfl
          refine V.istore (l' := [_, _, _, _, _]) d_Mo_goOn_245 rfl (ltb rfl) ?_
          refine V.aload_n d_Mo_goOn_247 rfl ?_
          refine V.get2 d_Mo_goOn_248 rfl (List.mem_singleton.mpr g1) ?_
          refine V.iload_n d_Mo_goOn_251 rfl ?_
          refine V.iconst (x := -1) d_Mo_goOn_252 (by decide) ?_
          obtain ⟨g53, hq⟩ := hq
          refine V.iastore d_Mo_goOn_253 g49 g53 g50 ?_
          replace hq := hq _ rfl
          refine V.aload_n d_Mo_goOn_254 rfl ?_
          refine V.iload d_Mo_goOn_255 rfl ?_
          refine V.callV d_Mo_goOn_257 (cV_call (t := [_]) (rs := []) rfl (Or.inl rfl) rfl (lk1 g1) ⟨leb rfl, leb rfl⟩) hq (fun h55 hq => ?_)
          refine V.vret d_Mo_goOn_260 rfl ?_
          exact V.rV hq
theorem w_Mo_pass {d : Nat} {K : Hp → Prop} {x0 : Nat} {x1 : Int32} {h0 : Hp} (hq :
  ((hS h0 x0).1 = 8 ∧ Ca d m_Mo_restore [.ref x0] h0 (QV (fun h2 => ((hS h2 x0).1 = 8 ∧ ((x1 = 0 ∨ x1 = 1) ∧ (∀ h5 : Hp, h5 = sI h2 x0 40 x1 → (∀ h7 : Hp, h7 = sI h5 x0 41 (0 : Int32) → (∀ h8 : Hp, h8 = sI h7 x0 42 (0 : Int32) → (∀ h9 : Hp, h9 = sI h8 x0 43 (8 : Int32) → (∀ h10 : Hp, h10 = sI h9 x0 46 (0 : Int32) → (∀ h11 : Hp, h11 = sI h10 x0 39 (0 : Int32) → (∀ h12 : Hp, h12 = sI h11 x0 47 (-1 : Int32) → (∀ h13 : Hp, h13 = sI h12 x0 48 (-1 : Int32) → Ca d m_Mo_enter [.ref x0, .int (0 : Int32)] h13 (QV (fun h14 => Wp (d + 1) m_Mo_pass 50 [some (.ref x0), some (.int x1)] [] h14 (QV K))))))))))))))))) : Ca (d + 1) m_Mo_pass [.ref x0, .int x1] h0 (QV K) := by
  show Wp _ _ 0 [some (.ref x0), some (.int x1)] [] h0 _
  refine V.aload_n d_Mo_pass_0 rfl ?_
  obtain ⟨g1, hq⟩ := hq
  refine V.callV d_Mo_pass_1 (cV_call (t := []) (rs := []) rfl (Or.inl rfl) rfl (lk1 g1) ⟨leb rfl, leb rfl⟩) hq (fun h2 hq => ?_)
  refine V.aload_n d_Mo_pass_4 rfl ?_
  refine V.iload_n d_Mo_pass_5 rfl ?_
  obtain ⟨g4, hq⟩ := hq
  obtain ⟨g6, hq⟩ := hq
  refine V.put3 d_Mo_pass_6 rfl (Or.inl rfl) (List.mem_singleton.mpr g4) g6 ?_
  replace hq := hq _ rfl
  refine V.aload_n d_Mo_pass_9 rfl ?_
  refine V.iconst (x := 0) d_Mo_pass_10 (by decide) ?_
  refine V.put0 d_Mo_pass_11 rfl (Or.inl rfl) (List.mem_singleton.mpr g4) ?_
  replace hq := hq _ rfl
  refine V.aload_n d_Mo_pass_14 rfl ?_
  refine V.iconst (x := 0) d_Mo_pass_15 (by decide) ?_
  refine V.put0 d_Mo_pass_16 rfl (Or.inl rfl) (List.mem_singleton.mpr g4) ?_
  replace hq := hq _ rfl
  refine V.aload_n d_Mo_pass_19 rfl ?_
  refine V.bipush (x := 8) d_Mo_pass_20 (by decide) ?_
  refine V.put0 d_Mo_pass_22 rfl (Or.inl rfl) (List.mem_singleton.mpr g4) ?_
  replace hq := hq _ rfl
  refine V.aload_n d_Mo_pass_25 rfl ?_
  refine V.iconst (x := 0) d_Mo_pass_26 (by decide) ?_
  refine V.put0 d_Mo_pass_27 rfl (Or.inl rfl) (List.mem_singleton.mpr g4) ?_
  replace hq := hq _ rfl
  refine V.aload_n d_Mo_pass_30 rfl ?_
  refine V.iconst (x := 0) d_Mo_pass_31 (by decide) ?_
  refine V.put0 d_Mo_pass_32 rfl (Or.inl rfl) (List.mem_singleton.mpr g4) ?_
  replace hq := hq _ rfl
  refine V.aload_n d_Mo_pass_35 rfl ?_
  refine V.iconst (x := -1) d_Mo_pass_36 (by decide) ?_
  refine V.put0 d_Mo_pass_37 rfl (Or.inl rfl) (List.mem_singleton.mpr g4) ?_
  replace hq := hq _ rfl
  refine V.aload_n d_Mo_pass_40 rfl ?_
  refine V.iconst (x := -1) d_Mo_pass_41 (by decide) ?_
  refine V.put0 d_Mo_pass_42 rfl (Or.inl rfl) (List.mem_singleton.mpr g4) ?_
  replace hq := hq _ rfl
  refine V.aload_n d_Mo_pass_45 rfl ?_
  refine V.iconst (x := 0) d_Mo_pass_46 (by decide) ?_
  refine V.callV d_Mo_pass_47 (cV_call (t := [_]) (rs := []) rfl (Or.inl rfl) rfl (lk1 g4) ⟨leb rfl, leb rfl⟩) hq (fun h14 hq => ?_)
  exact hq
theorem w_Mo_pass_50 {d : Nat} {K : Hp → Prop} {x0 : Nat} {y1 : Option Value} {h0 : Hp} (hq :
  ((hS h0 x0).1 = 8 ∧ (if 0 < (hI h0 x0 39) then (if (hI h0 x0 41) = 0 then Ca d m_Mo_goOn [.ref x0] h0 (QV (fun h17 => Wp (d + 1) m_Mo_pass 50 [some (.ref x0), y1] [] h17 (QV K))) else K h0) else K h0))) : Wp (d + 1) m_Mo_pass 50 [some (.ref x0), y1] [] h0 (QV K) := by
  refine V.aload_n d_Mo_pass_50 rfl ?_
  obtain ⟨g16, hq⟩ := hq
  refine V.get0 d_Mo_pass_51 rfl (List.mem_singleton.mpr g16) ?_
  refine V.if_le (t := 71) d_Mo_pass_54 ⟨rfl, rfl⟩ (fun hc => ?_) (fun hc => ?_)
  · replace hq := ifp hc hq
    refine V.aload_n d_Mo_pass_57 rfl ?_
    refine V.get0 d_Mo_pass_58 rfl (List.mem_singleton.mpr g16) ?_
    refine V.if_ne (t := 71) d_Mo_pass_61 ⟨rfl, rfl⟩ (fun hc => ?_) (fun hc => ?_)
    · replace hq := ifp hc hq
      refine V.aload_n d_Mo_pass_64 rfl ?_
      refine V.callV d_Mo_pass_65 (cV_call (t := []) (rs := []) rfl (Or.inl rfl) rfl (lk1 g16) ⟨leb rfl, leb rfl⟩) hq (fun h17 hq => ?_)
      refine V.goto (t := 50) d_Mo_pass_68 ⟨rfl, rfl⟩ ?_
      exact hq
    · replace hq := ifn hc hq
      refine V.vret d_Mo_pass_71 rfl ?_
      exact V.rV hq
  · replace hq := ifn hc hq
    refine V.vret d_Mo_pass_71 rfl ?_
    exact V.rV hq
theorem w_Mo_read {d : Nat} {K : Int32 → Hp → Prop} {x0 : Nat} {h0 : Hp} (hq :
  ((hS h0 x0).1 = 8 ∧ (∀ h2 : Hp, h2 = sI h0 x0 0 (0 : Int32) → (if (hI h2 x0 5) = 0 then Ca d m_Mo_fail [.ref x0, .int (1 : Int32)] h2 (QI (fun v3 h4 => K v3 h4)) else Ca d m_Mo_pass [.ref x0, .int (0 : Int32)] h2 (QV (fun h6 => ((hS h6 x0).1 = 8 ∧ (if (hI h6 x0 41) = 0 then (if (hI h6 x0 42) < (hI h6 x0 7) then (∀ h9 : Hp, h9 = sI h6 x0 10 (hI h6 x0 42) → (∀ h10 : Hp, h10 = sI h9 x0 11 (-1 : Int32) → Ca d m_Mo_fail [.ref x0, .int (4 : Int32)] h10 (QI (fun v11 h12 => K v11 h12)))) else Wp (d + 1) m_Mo_read 60 [some (.ref x0), none] [] h6 (QI K)) else Wp (d + 1) m_Mo_read 60 [some (.ref x0), none] [] h6 (QI K))))))))) : Ca (d + 1) m_Mo_read [.ref x0] h0 (QI K) := by
  show Wp _ _ 0 [some (.ref x0), none] [] h0 _
  refine V.aload_n d_Mo_read_0 rfl ?_
  refine V.iconst (x := 0) d_Mo_read_1 (by decide) ?_
  obtain ⟨g1, hq⟩ := hq
  refine V.put0 d_Mo_read_2 rfl (Or.inl rfl) (List.mem_singleton.mpr g1) ?_
  replace hq := hq _ rfl
  refine V.aload_n d_Mo_read_5 rfl ?_
  refine V.get3 d_Mo_read_6 rfl (List.mem_singleton.mpr g1) ?_
  refine V.if_ne (t := 18) d_Mo_read_9 ⟨rfl, rfl⟩ (fun hc => ?_) (fun hc => ?_)
  · replace hq := ifp hc hq
    refine V.aload_n d_Mo_read_12 rfl ?_
    refine V.iconst (x := 1) d_Mo_read_13 (by decide) ?_
    refine V.callI d_Mo_read_14 (cV_call (t := [_]) (rs := []) rfl (Or.inl rfl) rfl (lk1 g1) ⟨leb rfl, leb rfl⟩) hq (fun v3 h4 hq => ?_)
    refine V.iret d_Mo_read_17 rfl ?_
    exact V.rI hq
  · replace hq := ifn hc hq
    refine V.aload_n d_Mo_read_18 rfl ?_
    refine V.iconst (x := 0) d_Mo_read_19 (by decide) ?_
    refine V.callV d_Mo_read_20 (cV_call (t := [_]) (rs := []) rfl (Or.inl rfl) rfl (lk1 g1) ⟨leb rfl, leb rfl⟩) hq (fun h6 hq => ?_)
    refine V.aload_n d_Mo_read_23 rfl ?_
    obtain ⟨g8, hq⟩ := hq
    refine V.get0 d_Mo_read_24 rfl (List.mem_singleton.mpr g8) ?_
    refine V.if_ne (t := 60) d_Mo_read_27 ⟨rfl, rfl⟩ (fun hc => ?_) (fun hc => ?_)
    · replace hq := ifp hc hq
      refine V.aload_n d_Mo_read_30 rfl ?_
      refine V.get0 d_Mo_read_31 rfl (List.mem_singleton.mpr g8) ?_
      refine V.aload_n d_Mo_read_34 rfl ?_
      refine V.get0 d_Mo_read_35 rfl (List.mem_singleton.mpr g8) ?_
      refine V.ic_ge (t := 60) d_Mo_read_38 ⟨rfl, rfl⟩ (fun hc => ?_) (fun hc => ?_)
      · replace hq := ifp hc hq
        refine V.aload_n d_Mo_read_41 rfl ?_
        refine V.aload_n d_Mo_read_42 rfl ?_
        refine V.get0 d_Mo_read_43 rfl (List.mem_singleton.mpr g8) ?_
        refine V.put0 d_Mo_read_46 rfl (Or.inl rfl) (List.mem_singleton.mpr g8) ?_
        replace hq := hq _ rfl
        refine V.aload_n d_Mo_read_49 rfl ?_
        refine V.iconst (x := -1) d_Mo_read_50 (by decide) ?_
        refine V.put0 d_Mo_read_51 rfl (Or.inl rfl) (List.mem_singleton.mpr g8) ?_
        replace hq := hq _ rfl
        refine V.aload_n d_Mo_read_54 rfl ?_
        refine V.iconst (x := 4) d_Mo_read_55 (by decide) ?_
        refine V.callI d_Mo_read_56 (cV_call (t := [_]) (rs := []) rfl (Or.inl rfl) rfl (lk1 g8) ⟨leb rfl, leb rfl⟩) hq (fun v11 h12 hq => ?_)
        refine V.iret d_Mo_read_59 rfl ?_
        exact V.rI hq
      · replace hq := ifn hc hq
        exact hq
    · replace hq := ifn hc hq
      exact hq
theorem w_Mo_read_60 {d : Nat} {K : Int32 → Hp → Prop} {x0 : Nat} {y1 : Option Value} {h0 : Hp} (hq :
  ((hS h0 x0).1 = 8 ∧ (if 0 < (hI h0 x0 41) then (∀ h15 : Hp, h15 = sI h0 x0 10 (hI h0 x0 47) → (∀ h16 : Hp, h16 = sI h15 x0 11 (hI h15 x0 48) → Ca d m_Mo_fail [.ref x0, .int (hI h16 x0 41)] h16 (QI (fun v17 h18 => K v17 h18)))) else (∀ h20 : Hp, h20 = sI h0 x0 9 (hI h0 x0 46) → Wp (d + 1) m_Mo_read 102 [some (.ref x0), some (.int (0 : Int32))] [] h20 (QI K))))) : Wp (d + 1) m_Mo_read 60 [some (.ref x0), y1] [] h0 (QI K) := by
  refine V.aload_n d_Mo_read_60 rfl ?_
  obtain ⟨g14, hq⟩ := hq
  refine V.get0 d_Mo_read_61 rfl (List.mem_singleton.mpr g14) ?_
  refine V.if_le (t := 92) d_Mo_read_64 ⟨rfl, rfl⟩ (fun hc => ?_) (fun hc => ?_)
  · replace hq := ifp hc hq
    refine V.aload_n d_Mo_read_67 rfl ?_
    refine V.aload_n d_Mo_read_68 rfl ?_
    refine V.get0 d_Mo_read_69 rfl (List.mem_singleton.mpr g14) ?_
    refine V.put0 d_Mo_read_72 rfl (Or.inl rfl) (List.mem_singleton.mpr g14) ?_
    replace hq := hq _ rfl
    refine V.aload_n d_Mo_read_75 rfl ?_
    refine V.aload_n d_Mo_read_76 rfl ?_
    refine V.get0 d_Mo_read_77 rfl (List.mem_singleton.mpr g14) ?_
    refine V.put0 d_Mo_read_80 rfl (Or.inl rfl) (List.mem_singleton.mpr g14) ?_
    replace hq := hq _ rfl
    refine V.aload_n d_Mo_read_83 rfl ?_
    refine V.aload_n d_Mo_read_84 rfl ?_
    refine V.get0 d_Mo_read_85 rfl (List.mem_singleton.mpr g14) ?_
    refine V.callI d_Mo_read_88 (cV_call (t := [_]) (rs := []) rfl (Or.inl rfl) rfl (lk1 g14) ⟨leb rfl, leb rfl⟩) hq (fun v17 h18 hq => ?_)
    refine V.iret d_Mo_read_91 rfl ?_
    exact V.rI hq
  · replace hq := ifn hc hq
    refine V.aload_n d_Mo_read_92 rfl ?_
    refine V.aload_n d_Mo_read_93 rfl ?_
    refine V.get0 d_Mo_read_94 rfl (List.mem_singleton.mpr g14) ?_
    refine V.put0 d_Mo_read_97 rfl (Or.inl rfl) (List.mem_singleton.mpr g14) ?_
    replace hq := hq _ rfl
    refine V.iconst (x := 0) d_Mo_read_100 (by decide) ?_
    refine V.istore_n (l' := [_, _]) d_Mo_read_101 rfl (ltb rfl) ?_
    exact hq
theorem w_Mo_read_102 {d : Nat} {K : Int32 → Hp → Prop} {x0 : Nat} {x1 : Int32} {h0 : Hp} (hq :
  ((hS h0 x0).1 = 8 ∧ (if x1 < (hI h0 x0 9) then ((hS h0 (hR h0 x0 45)).1 = 21 ∧ (ainr x1 (hS h0 (hR h0 x0 45)).2 = true ∧ ((hS h0 (hR h0 x0 8)).1 = 21 ∧ (¬ (hR h0 x0 8) = 1 ∧ (ainr x1 (hS h0 (hR h0 x0 8)).2 = true ∧ (∀ h27 : Hp, h27 = sL h0 (hR h0 x0 8) x1.toNatClampNeg (hL h0 (hR h0 x0 45) x1.toNatClampNeg) → (∀ v28 : Int32, v28 = (x1 + 1) → Wp (d + 1) m_Mo_read 102 [some (.ref x0), some (.int v28)] [] h27 (QI K)))))))) else K (hI h0 x0 9) h0))) : Wp (d + 1) m_Mo_read 102 [some (.ref x0), some (.int x1)] [] h0 (QI K) := by
  refine V.iload_n d_Mo_read_102 rfl ?_
  refine V.aload_n d_Mo_read_103 rfl ?_
  obtain ⟨g21, hq⟩ := hq
  refine V.get0 d_Mo_read_104 rfl (List.mem_singleton.mpr g21) ?_
  refine V.ic_ge (t := 128) d_Mo_read_107 ⟨rfl, rfl⟩ (fun hc => ?_) (fun hc => ?_)
  · replace hq := ifp hc hq
    refine V.aload_n d_Mo_read_110 rfl ?_
    refine V.get2 d_Mo_read_111 rfl (List.mem_singleton.mpr g21) ?_
    refine V.iload_n d_Mo_read_114 rfl ?_
    refine V.aload_n d_Mo_read_115 rfl ?_
    refine V.get2 d_Mo_read_116 rfl (List.mem_singleton.mpr g21) ?_
    refine V.iload_n d_Mo_read_119 rfl ?_
    obtain ⟨g22, hq⟩ := hq
    obtain ⟨g23, hq⟩ := hq
    refine V.laload d_Mo_read_120 g22 g23 ?_
    obtain ⟨g24, hq⟩ := hq
    obtain ⟨g25, hq⟩ := hq
    obtain ⟨g26, hq⟩ := hq
    refine V.lastore d_Mo_read_121 g24 g25 g26 ?_
    replace hq := hq _ rfl
    replace hq := hq _ rfl
    refine V.iinc (l' := [_, _]) d_Mo_read_122 rfl (show _ + _ = _ + (1 : Int32) from rfl) rfl ?_
    refine V.goto (t := 102) d_Mo_read_125 ⟨rfl, rfl⟩ ?_
    exact hq
  · replace hq := ifn hc hq
    refine V.aload_n d_Mo_read_128 rfl ?_
    refine V.get0 d_Mo_read_129 rfl (List.mem_singleton.mpr g21) ?_
    refine V.iret d_Mo_read_132 rfl ?_
    exact V.rI hq
theorem w_Mo_write {d : Nat} {K : Int32 → Hp → Prop} {x0 : Nat} {h0 : Hp} (hq :
  ((hS h0 x0).1 = 8 ∧ (∀ h2 : Hp, h2 = sI h0 x0 0 (0 : Int32) → (if (hI h2 x0 5) = 0 then Ca d m_Mo_fail [.ref x0, .int (1 : Int32)] h2 (QI (fun v3 h4 => K v3 h4)) else Ca d m_Mo_pass [.ref x0, .int (1 : Int32)] h2 (QV (fun h6 => ((hS h6 x0).1 = 8 ∧ (if 0 < (hI h6 x0 41) then (∀ h9 : Hp, h9 = sI h6 x0 10 (hI h6 x0 47) → (∀ h10 : Hp, h10 = sI h9 x0 11 (hI h9 x0 48) → Ca d m_Mo_fail [.ref x0, .int (hI h10 x0 41)] h10 (QI (fun v11 h12 => K v11 h12)))) else (if (hI h6 x0 46) < (hI h6 x0 9) then Ca d m_Mo_fail [.ref x0, .int (4 : Int32)] h6 (QI (fun v14 h15 => K v14 h15)) else (∀ h17 : Hp, h17 = sI h6 x0 7 (hI h6 x0 42) → Wp (d + 1) m_Mo_write 82 [some (.ref x0), some (.int (0 : Int32))] [] h17 (QI K))))))))))) : Ca (d + 1) m_Mo_write [.ref x0] h0 (QI K) := by
  show Wp _ _ 0 [some (.ref x0), none] [] h0 _
  refine V.aload_n d_Mo_write_0 rfl ?_
  refine V.iconst (x := 0) d_Mo_write_1 (by decide) ?_
  obtain ⟨g1, hq⟩ := hq
  refine V.put0 d_Mo_write_2 rfl (Or.inl rfl) (List.mem_singleton.mpr g1) ?_
  replace hq := hq _ rfl
  refine V.aload_n d_Mo_write_5 rfl ?_
  refine V.get3 d_Mo_write_6 rfl (List.mem_singleton.mpr g1) ?_
  refine V.if_ne (t := 18) d_Mo_write_9 ⟨rfl, rfl⟩ (fun hc => ?_) (fun hc => ?_)
  · replace hq := ifp hc hq
    refine V.aload_n d_Mo_write_12 rfl ?_
    refine V.iconst (x := 1) d_Mo_write_13 (by decide) ?_
    refine V.callI d_Mo_write_14 (cV_call (t := [_]) (rs := []) rfl (Or.inl rfl) rfl (lk1 g1) ⟨leb rfl, leb rfl⟩) hq (fun v3 h4 hq => ?_)
    refine V.iret d_Mo_write_17 rfl ?_
    exact V.rI hq
  · replace hq := ifn hc hq
    refine V.aload_n d_Mo_write_18 rfl ?_
    refine V.iconst (x := 1) d_Mo_write_19 (by decide) ?_
    refine V.callV d_Mo_write_20 (cV_call (t := [_]) (rs := []) rfl (Or.inl rfl) rfl (lk1 g1) ⟨leb rfl, leb rfl⟩) hq (fun h6 hq => ?_)
    refine V.aload_n d_Mo_write_23 rfl ?_
    obtain ⟨g8, hq⟩ := hq
    refine V.get0 d_Mo_write_24 rfl (List.mem_singleton.mpr g8) ?_
    refine V.if_le (t := 55) d_Mo_write_27 ⟨rfl, rfl⟩ (fun hc => ?_) (fun hc => ?_)
    · replace hq := ifp hc hq
      refine V.aload_n d_Mo_write_30 rfl ?_
      refine V.aload_n d_Mo_write_31 rfl ?_
      refine V.get0 d_Mo_write_32 rfl (List.mem_singleton.mpr g8) ?_
      refine V.put0 d_Mo_write_35 rfl (Or.inl rfl) (List.mem_singleton.mpr g8) ?_
      replace hq := hq _ rfl
      refine V.aload_n d_Mo_write_38 rfl ?_
      refine V.aload_n d_Mo_write_39 rfl ?_
      refine V.get0 d_Mo_write_40 rfl (List.mem_singleton.mpr g8) ?_
      refine V.put0 d_Mo_write_43 rfl (Or.inl rfl) (List.mem_singleton.mpr g8) ?_
      replace hq := hq _ rfl
      refine V.aload_n d_Mo_write_46 rfl ?_
      refine V.aload_n d_Mo_write_47 rfl ?_
      refine V.get0 d_Mo_write_48 rfl (List.mem_singleton.mpr g8) ?_
      refine V.callI d_Mo_write_51 (cV_call (t := [_]) (rs := []) rfl (Or.inl rfl) rfl (lk1 g8) ⟨leb rfl, leb rfl⟩) hq (fun v11 h12 hq => ?_)
      refine V.iret d_Mo_write_54 rfl ?_
      exact V.rI hq
    · replace hq := ifn hc hq
      refine V.aload_n d_Mo_write_55 rfl ?_
      refine V.get0 d_Mo_write_56 rfl (List.mem_singleton.mpr g8) ?_
      refine V.aload_n d_Mo_write_59 rfl ?_
      refine V.get0 d_Mo_write_60 rfl (List.mem_singleton.mpr g8) ?_
      refine V.ic_ge (t := 72) d_Mo_write_63 ⟨rfl, rfl⟩ (fun hc => ?_) (fun hc => ?_)
      · replace hq := ifp hc hq
        refine V.aload_n d_Mo_write_66 rfl ?_
        refine V.iconst (x := 4) d_Mo_write_67 (by decide) ?_
        refine V.callI d_Mo_write_68 (cV_call (t := [_]) (rs := []) rfl (Or.inl rfl) rfl (lk1 g8) ⟨leb rfl, leb rfl⟩) hq (fun v14 h15 hq => ?_)
        refine V.iret d_Mo_write_71 rfl ?_
        exact V.rI hq
      · replace hq := ifn hc hq
        refine V.aload_n d_Mo_write_72 rfl ?_
        refine V.aload_n d_Mo_write_73 rfl ?_
        refine V.get0 d_Mo_write_74 rfl (List.mem_singleton.mpr g8) ?_
        refine V.put0 d_Mo_write_77 rfl (Or.inl rfl) (List.mem_singleton.mpr g8) ?_
        replace hq := hq _ rfl
        refine V.iconst (x := 0) d_Mo_write_80 (by decide) ?_
        refine V.istore_n (l' := [_, _]) d_Mo_write_81 rfl (ltb rfl) ?_
        exact hq
theorem w_Mo_write_82 {d : Nat} {K : Int32 → Hp → Prop} {x0 : Nat} {x1 : Int32} {h0 : Hp} (hq :
  ((hS h0 x0).1 = 8 ∧ (if x1 < (hI h0 x0 7) then ((hS h0 (hR h0 x0 44)).1 = 20 ∧ (ainr x1 (hS h0 (hR h0 x0 44)).2 = true ∧ ((hS h0 (hR h0 x0 6)).1 = 20 ∧ (¬ (hR h0 x0 6) = 1 ∧ (ainr x1 (hS h0 (hR h0 x0 6)).2 = true ∧ (∀ h24 : Hp, h24 = sI h0 (hR h0 x0 6) x1.toNatClampNeg (hI h0 (hR h0 x0 44) x1.toNatClampNeg) → (∀ v25 : Int32, v25 = (x1 + 1) → Wp (d + 1) m_Mo_write 82 [some (.ref x0), some (.int v25)] [] h24 (QI K)))))))) else K (hI h0 x0 7) h0))) : Wp (d + 1) m_Mo_write 82 [some (.ref x0), some (.int x1)] [] h0 (QI K) := by
  refine V.iload_n d_Mo_write_82 rfl ?_
  refine V.aload_n d_Mo_write_83 rfl ?_
  obtain ⟨g18, hq⟩ := hq
  refine V.get0 d_Mo_write_84 rfl (List.mem_singleton.mpr g18) ?_
  refine V.ic_ge (t := 108) d_Mo_write_87 ⟨rfl, rfl⟩ (fun hc => ?_) (fun hc => ?_)
  · replace hq := ifp hc hq
    refine V.aload_n d_Mo_write_90 rfl ?_
    refine V.get2 d_Mo_write_91 rfl (List.mem_singleton.mpr g18) ?_
    refine V.iload_n d_Mo_write_94 rfl ?_
    refine V.aload_n d_Mo_write_95 rfl ?_
    refine V.get2 d_Mo_write_96 rfl (List.mem_singleton.mpr g18) ?_
    refine V.iload_n d_Mo_write_99 rfl ?_
    obtain ⟨g19, hq⟩ := hq
    obtain ⟨g20, hq⟩ := hq
    refine V.iaload d_Mo_write_100 g19 g20 ?_
    obtain ⟨g21, hq⟩ := hq
    obtain ⟨g22, hq⟩ := hq
    obtain ⟨g23, hq⟩ := hq
    refine V.iastore d_Mo_write_101 g21 g22 g23 ?_
    replace hq := hq _ rfl
    replace hq := hq _ rfl
    refine V.iinc (l' := [_, _]) d_Mo_write_102 rfl (show _ + _ = _ + (1 : Int32) from rfl) rfl ?_
    refine V.goto (t := 82) d_Mo_write_105 ⟨rfl, rfl⟩ ?_
    exact hq
  · replace hq := ifn hc hq
    refine V.aload_n d_Mo_write_108 rfl ?_
    refine V.get0 d_Mo_write_109 rfl (List.mem_singleton.mpr g18) ?_
    refine V.iret d_Mo_write_112 rfl ?_
    exact V.rI hq
theorem w_Mo_value {d : Nat} {K : Int64 → Hp → Prop} {x0 : Nat} {x1 : Int32} {h0 : Hp} (hq :
  ((hS h0 x0).1 = 8 ∧ (∀ h2 : Hp, h2 = sI h0 x0 0 (0 : Int32) → Ca d m_Mo_out [.ref x0, .int x1, .int (hI h2 x0 9)] h2 (QI (fun v3 h4 => (if v3 = 0 then ((hS h4 x0).1 = 8 ∧ ((hS h4 (hR h4 x0 8)).1 = 21 ∧ (ainr x1 (hS h4 (hR h4 x0 8)).2 = true ∧ K (hL h4 (hR h4 x0 8) x1.toNatClampNeg) h4))) else ((hS h4 x0).1 = 8 ∧ Ca d m_Mo_fail [.ref x0, .int (1 : Int32)] h4 (QI (fun v10 h11 => K (v10.toInt64) h11))))))))) : Ca (d + 1) m_Mo_value [.ref x0, .int x1] h0 (QL K) := by
  show Wp _ _ 0 [some (.ref x0), some (.int x1)] [] h0 _
  refine V.aload_n d_Mo_value_0 rfl ?_
  refine V.iconst (x := 0) d_Mo_value_1 (by decide) ?_
  obtain ⟨g1, hq⟩ := hq
  refine V.put0 d_Mo_value_2 rfl (Or.inl rfl) (List.mem_singleton.mpr g1) ?_
  replace hq := hq _ rfl
  refine V.aload_n d_Mo_value_5 rfl ?_
  refine V.iload_n d_Mo_value_6 rfl ?_
  refine V.aload_n d_Mo_value_7 rfl ?_
  refine V.get0 d_Mo_value_8 rfl (List.mem_singleton.mpr g1) ?_
  refine V.callI d_Mo_value_11 (cV_call (t := [_, _]) (rs := []) rfl (Or.inl rfl) rfl (lk1 g1) ⟨leb rfl, leb rfl⟩) hq (fun v3 h4 hq => ?_)
  refine V.if_eq (t := 26) d_Mo_value_14 ⟨rfl, rfl⟩ (fun hc => ?_) (fun hc => ?_)
  · replace hq := ifp hc hq
    refine V.aload_n d_Mo_value_26 rfl ?_
    obtain ⟨g6, hq⟩ := hq
    refine V.get2 d_Mo_value_27 rfl (List.mem_singleton.mpr g6) ?_
    refine V.iload_n d_Mo_value_30 rfl ?_
    obtain ⟨g7, hq⟩ := hq
    obtain ⟨g8, hq⟩ := hq
    refine V.laload d_Mo_value_31 g7 g8 ?_
    refine V.lret d_Mo_value_32 rfl ?_
    exact V.rL hq
  · replace hq := ifn hc hq
    refine V.aload_n d_Mo_value_17 rfl ?_
    refine V.iconst (x := 1) d_Mo_value_18 (by decide) ?_
    obtain ⟨g9, hq⟩ := hq
    refine V.callI d_Mo_value_19 (cV_call (t := [_]) (rs := []) rfl (Or.inl rfl) rfl (lk1 g9) ⟨leb rfl, leb rfl⟩) hq (fun v10 h11 hq => ?_)
    refine V.i2l d_Mo_value_22 ?_
    refine V.goto (t := 32) d_Mo_value_23 ⟨rfl, rfl⟩ ?_
    refine V.lret d_Mo_value_32 rfl ?_
    exact V.rL hq
theorem w_Mo_real {d : Nat} {K : UInt64 → Hp → Prop} {x0 : Nat} {x1 : Int32} {h0 : Hp} (hq :
  ((hS h0 x0).1 = 8 ∧ (∀ h2 : Hp, h2 = sI h0 x0 0 (0 : Int32) → Ca d m_Mo_out [.ref x0, .int x1, .int (hI h2 x0 9)] h2 (QI (fun v3 h4 => (if v3 = 0 then ((hS h4 x0).1 = 8 ∧ ((hS h4 (hR h4 x0 8)).1 = 21 ∧ (ainr x1 (hS h4 (hR h4 x0 8)).2 = true ∧ (∀ v9 : Int64, v9 = (hL h4 (hR h4 x0 8) x1.toNatClampNeg) → (∀ v10 : Int64, v10 = ((v9 >>> ((52 : Int32).toInt64 &&& 63)) &&& (2047 : Int64)) → (∀ v11 : Int64, v11 = (v9 &&& (4503599627370495 : Int64)) → (if v10 = (2047 : Int64) then (if v11 = (0 : Int64) then Wp (d + 1) m_Mo_real 66 [some (.ref x0), some (.int x1), some (.long v9), none, some (.long v10), none, some (.long v11), none, none, none, none, none] [] h4 (QD K) else K (0 : UInt64) h4) else Wp (d + 1) m_Mo_real 66 [some (.ref x0), some (.int x1), some (.long v9), none, some (.long v10), none, some (.long v11), none, none, none, none, none] [] h4 (QD K)))))))) else ((hS h4 x0).1 = 8 ∧ Ca d m_Mo_fail [.ref x0, .int (1 : Int32)] h4 (QI (fun v13 h14 => K (FP.i2d v13) h14))))))))) : Ca (d + 1) m_Mo_real [.ref x0, .int x1] h0 (QD K) := by
  show Wp _ _ 0 [some (.ref x0), some (.int x1), none, none, none, none, none, none, none, none, none, none] [] h0 _
  refine V.aload_n d_Mo_real_0 rfl ?_
  refine V.iconst (x := 0) d_Mo_real_1 (by decide) ?_
  obtain ⟨g1, hq⟩ := hq
  refine V.put0 d_Mo_real_2 rfl (Or.inl rfl) (List.mem_singleton.mpr g1) ?_
  replace hq := hq _ rfl
  refine V.aload_n d_Mo_real_5 rfl ?_
  refine V.iload_n d_Mo_real_6 rfl ?_
  refine V.aload_n d_Mo_real_7 rfl ?_
  refine V.get0 d_Mo_real_8 rfl (List.mem_singleton.mpr g1) ?_
  refine V.callI d_Mo_real_11 (cV_call (t := [_, _]) (rs := []) rfl (Or.inl rfl) rfl (lk1 g1) ⟨leb rfl, leb rfl⟩) hq (fun v3 h4 hq => ?_)
  refine V.if_eq (t := 24) d_Mo_real_14 ⟨rfl, rfl⟩ (fun hc => ?_) (fun hc => ?_)
  · replace hq := ifp hc hq
    refine V.aload_n d_Mo_real_24 rfl ?_
    obtain ⟨g6, hq⟩ := hq
    refine V.get2 d_Mo_real_25 rfl (List.mem_singleton.mpr g6) ?_
    refine V.iload_n d_Mo_real_28 rfl ?_
    obtain ⟨g7, hq⟩ := hq
    obtain ⟨g8, hq⟩ := hq
    refine V.laload d_Mo_real_29 g7 g8 ?_
    replace hq := hq _ rfl
    refine V.lstore_n (l' := [_, _, _, _, _, _, _, _, _, _, _, _]) d_Mo_real_30 rfl (ltb rfl) ?_
    refine V.lload_n d_Mo_real_31 rfl ?_
    refine V.bipush (x := 52) d_Mo_real_32 (by decide) ?_
    refine V.lshr d_Mo_real_34 ?_
    refine V.ldc2_w d_Mo_real_35 rfl ?_
    refine V.land d_Mo_real_38 ?_
    replace hq := hq _ rfl
    refine V.lstore (l' := [_, _, _, _, _, _, _, _, _, _, _, _]) d_Mo_real_39 rfl (ltb rfl) ?_
    refine V.lload_n d_Mo_real_41 rfl ?_
    refine V.ldc2_w d_Mo_real_42 rfl ?_
    refine V.land d_Mo_real_45 ?_
    replace hq := hq _ rfl
    refine V.lstore (l' := [_, _, _, _, _, _, _, _, _, _, _, _]) d_Mo_real_46 rfl (ltb rfl) ?_
    refine V.lload d_Mo_real_48 rfl ?_
    refine V.ldc2_w d_Mo_real_50 rfl ?_
    refine V.lc_ne d_Mo_real_53 d_Mo_real_54 ⟨rfl, rfl⟩ (fun hc => ?_) (fun hc => ?_)
    · replace hq := ifp hc hq
      refine V.lload d_Mo_real_57 rfl ?_
      refine V.lconst (x := 0) d_Mo_real_59 (by decide) ?_
      refine V.lc_eq d_Mo_real_60 d_Mo_real_61 ⟨rfl, rfl⟩ (fun hc => ?_) (fun hc => ?_)
      · replace hq := ifp hc hq
        exact hq
      · replace hq := ifn hc hq
        refine V.dconst0 d_Mo_real_64 ?_
        refine V.dret d_Mo_real_65 rfl ?_
        exact V.rD hq
    · replace hq := ifn hc hq
      exact hq
  · replace hq := ifn hc hq
    refine V.aload_n d_Mo_real_17 rfl ?_
    refine V.iconst (x := 1) d_Mo_real_18 (by decide) ?_
    obtain ⟨g12, hq⟩ := hq
    refine V.callI d_Mo_real_19 (cV_call (t := [_]) (rs := []) rfl (Or.inl rfl) rfl (lk1 g12) ⟨leb rfl, leb rfl⟩) hq (fun v13 h14 hq => ?_)
    refine V.i2d d_Mo_real_22 ?_
    refine V.dret d_Mo_real_23 rfl ?_
    exact V.rD hq
theorem w_Mo_real_66 {d : Nat} {K : UInt64 → Hp → Prop} {y0 : Option Value} {y1 : Option Value} {x2 : Int64} {x4 : Int64} {x6 : Int64} {y8 : Option Value} {y9 : Option Value} {y10 : Option Value} {y11 : Option Value} {h0 : Hp} (hq :
  (if x4 = (2047 : Int64) then (if x4 < (2047 : Int64) then (if (0 : Int64) < x4 then ((FP.dadd (9218868437227405312 : UInt64) (4841369599423283200 : UInt64)) &&& 0x7fffffffffffffff ≤ 0x7ff0000000000000 ∧ (∀ v17 : UInt64, v17 = (FP.dadd (9218868437227405312 : UInt64) (4841369599423283200 : UInt64)) → Wp (d + 1) m_Mo_real 110 [y0, y1, some (.long x2), none, some (.long x4), none, some (.long x6), none, some (.double v17), none, y10, y11] [] h0 (QD K))) else Wp (d + 1) m_Mo_real 110 [y0, y1, some (.long x2), none, some (.long x4), none, some (.long x6), none, some (.double (9218868437227405312 : UInt64)), none, y10, y11] [] h0 (QD K)) else (if x2 < (0 : Int64) then K (FP.dneg (9218868437227405312 : UInt64)) h0 else K (9218868437227405312 : UInt64) h0)) else (∀ v18 : UInt64, v18 = (FP.l2d x6) → (if x4 < (2047 : Int64) then (if (0 : Int64) < x4 then ((FP.dadd v18 (4841369599423283200 : UInt64)) &&& 0x7fffffffffffffff ≤ 0x7ff0000000000000 ∧ (∀ v20 : UInt64, v20 = (FP.dadd v18 (4841369599423283200 : UInt64)) → Wp (d + 1) m_Mo_real 110 [y0, y1, some (.long x2), none, some (.long x4), none, some (.long x6), none, some (.double v20), none, y10, y11] [] h0 (QD K))) else Wp (d + 1) m_Mo_real 110 [y0, y1, some (.long x2), none, some (.long x4), none, some (.long x6), none, some (.double v18), none, y10, y11] [] h0 (QD K)) else (if x2 < (0 : Int64) then K (FP.dneg v18) h0 else K v18 h0))))) : Wp (d + 1) m_Mo_real 66 [y0, y1, some (.long x2), none, some (.long x4), none, some (.long x6), none, y8, y9, y10, y11] [] h0 (QD K) := by
  refine V.lload d_Mo_real_66 rfl ?_
  refine V.ldc2_w d_Mo_real_68 rfl ?_
  refine V.lc_ne d_Mo_real_71 d_Mo_real_72 ⟨rfl, rfl⟩ (fun hc => ?_) (fun hc => ?_)
  · replace hq := ifp hc hq
    refine V.ldc2_w d_Mo_real_75 rfl ?_
    refine V.goto (t := 84) d_Mo_real_78 ⟨rfl, rfl⟩ ?_
    refine V.dstore (l' := [_, _, _, _, _, _, _, _, _, _, _, _]) d_Mo_real_84 rfl (ltb rfl) ?_
    refine V.lload d_Mo_real_86 rfl ?_
    refine V.ldc2_w d_Mo_real_88 rfl ?_
    refine V.lc_ge d_Mo_real_91 d_Mo_real_92 ⟨rfl, rfl⟩ (fun hc => ?_) (fun hc => ?_)
    · replace hq := ifp hc hq
      refine V.lload d_Mo_real_95 rfl ?_
      refine V.lconst (x := 0) d_Mo_real_97 (by decide) ?_
      refine V.lc_le d_Mo_real_98 d_Mo_real_99 ⟨rfl, rfl⟩ (fun hc => ?_) (fun hc => ?_)
      · replace hq := ifp hc hq
        refine V.dload d_Mo_real_102 rfl ?_
        refine V.ldc2_w d_Mo_real_104 rfl ?_
        obtain ⟨g16, hq⟩ := hq
        refine V.dadd d_Mo_real_107 g16 ?_
        replace hq := hq _ rfl
        refine V.dstore (l' := [_, _, _, _, _, _, _, _, _, _, _, _]) d_Mo_real_108 rfl (ltb rfl) ?_
        exact hq
      · replace hq := ifn hc hq
        exact hq
    · replace hq := ifn hc hq
      refine V.lload_n d_Mo_real_180 rfl ?_
      refine V.lconst (x := 0) d_Mo_real_181 (by decide) ?_
      refine V.lc_ge d_Mo_real_182 d_Mo_real_183 ⟨rfl, rfl⟩ (fun hc => ?_) (fun hc => ?_)
      · replace hq := ifp hc hq
        refine V.dload d_Mo_real_186 rfl ?_
        refine V.dneg d_Mo_real_188 ?_
        refine V.goto (t := 194) d_Mo_real_189 ⟨rfl, rfl⟩ ?_
        refine V.dret d_Mo_real_194 rfl ?_
        exact V.rD hq
      · replace hq := ifn hc hq
        refine V.dload d_Mo_real_192 rfl ?_
        refine V.dret d_Mo_real_194 rfl ?_
        exact V.rD hq
  · replace hq := ifn hc hq
    refine V.lload d_Mo_real_81 rfl ?_
    refine V.l2d d_Mo_real_83 ?_
    replace hq := hq _ rfl
    refine V.dstore (l' := [_, _, _, _, _, _, _, _, _, _, _, _]) d_Mo_real_84 rfl (ltb rfl) ?_
    refine V.lload d_Mo_real_86 rfl ?_
    refine V.ldc2_w d_Mo_real_88 rfl ?_
    refine V.lc_ge d_Mo_real_91 d_Mo_real_92 ⟨rfl, rfl⟩ (fun hc => ?_) (fun hc => ?_)
    · replace hq := ifp hc hq
      refine V.lload d_Mo_real_95 rfl ?_
      refine V.lconst (x := 0) d_Mo_real_97 (by decide) ?_
      refine V.lc_le d_Mo_real_98 d_Mo_real_99 ⟨rfl, rfl⟩ (fun hc => ?_) (fun hc => ?_)
      · replace hq := ifp hc hq
        refine V.dload d_Mo_real_102 rfl ?_
        refine V.ldc2_w d_Mo_real_104 rfl ?_
        obtain ⟨g19, hq⟩ := hq
        refine V.dadd d_Mo_real_107 g19 ?_
        replace hq := hq _ rfl
        refine V.dstore (l' := [_, _, _, _, _, _, _, _, _, _, _, _]) d_Mo_real_108 rfl (ltb rfl) ?_
        exact hq
      · replace hq := ifn hc hq
        exact hq
    · replace hq := ifn hc hq
      refine V.lload_n d_Mo_real_180 rfl ?_
      refine V.lconst (x := 0) d_Mo_real_181 (by decide) ?_
      refine V.lc_ge d_Mo_real_182 d_Mo_real_183 ⟨rfl, rfl⟩ (fun hc => ?_) (fun hc => ?_)
      · replace hq := ifp hc hq
        refine V.dload d_Mo_real_186 rfl ?_
        refine V.dneg d_Mo_real_188 ?_
        refine V.goto (t := 194) d_Mo_real_189 ⟨rfl, rfl⟩ ?_
        refine V.dret d_Mo_real_194 rfl ?_
        exact V.rD hq
      · replace hq := ifn hc hq
        refine V.dload d_Mo_real_192 rfl ?_
        refine V.dret d_Mo_real_194 rfl ?_
        exact V.rD hq
theorem w_Mo_real_110 {d : Nat} {K : UInt64 → Hp → Prop} {y0 : Option Value} {y1 : Option Value} {x2 : Int64} {x4 : Int64} {y6 : Option Value} {y7 : Option Value} {x8 : UInt64} {y10 : Option Value} {y11 : Option Value} {h0 : Hp} (hq :
  (if x4 = (0 : Int64) then (∀ v21 : Int32, v21 = ((0 : Int32) - (1074 : Int32)) → Wp (d + 1) m_Mo_real 135 [y0, y1, some (.long x2), none, some (.long x4), none, y6, y7, some (.double x8), none, some (.int v21), some (.int (0 : Int32))] [] h0 (QD K)) else (∀ v22 : Int32, v22 = (((x4.toInt32) - (1 : Int32)) - (1074 : Int32)) → Wp (d + 1) m_Mo_real 135 [y0, y1, some (.long x2), none, some (.long x4), none, y6, y7, some (.double x8), none, some (.int v22), some (.int (0 : Int32))] [] h0 (QD K)))) : Wp (d + 1) m_Mo_real 110 [y0, y1, some (.long x2), none, some (.long x4), none, y6, y7, some (.double x8), none, y10, y11] [] h0 (QD K) := by
  refine V.lload d_Mo_real_110 rfl ?_
  refine V.lconst (x := 0) d_Mo_real_112 (by decide) ?_
  refine V.lc_ne d_Mo_real_113 d_Mo_real_114 ⟨rfl, rfl⟩ (fun hc => ?_) (fun hc => ?_)
  · replace hq := ifp hc hq
    refine V.iconst (x := 0) d_Mo_real_117 (by decide) ?_
    refine V.goto (t := 126) d_Mo_real_118 ⟨rfl, rfl⟩ ?_
    refine V.sipush (x := 1074) d_Mo_real_126 (by decide) ?_
    refine V.isub d_Mo_real_129 ?_
    replace hq := hq _ rfl
    refine V.istore (l' := [_, _, _, _, _, _, _, _, _, _, _, _]) d_Mo_real_130 rfl (ltb rfl) ?_
    refine V.iconst (x := 0) d_Mo_real_132 (by decide) ?_
    refine V.istore (l' := [_, _, _, _, _, _, _, _, _, _, _, _]) d_Mo_real_133 rfl (ltb rfl) ?_
    exact hq
  · replace hq := ifn hc hq
    refine V.lload d_Mo_real_121 rfl ?_
    refine V.l2i d_Mo_real_123 ?_
    refine V.iconst (x := 1) d_Mo_real_124 (by decide) ?_
    refine V.isub d_Mo_real_125 ?_
    refine V.sipush (x := 1074) d_Mo_real_126 (by decide) ?_
    refine V.isub d_Mo_real_129 ?_
    replace hq := hq _ rfl
    refine V.istore (l' := [_, _, _, _, _, _, _, _, _, _, _, _]) d_Mo_real_130 rfl (ltb rfl) ?_
    refine V.iconst (x := 0) d_Mo_real_132 (by decide) ?_
    refine V.istore (l' := [_, _, _, _, _, _, _, _, _, _, _, _]) d_Mo_real_133 rfl (ltb rfl) ?_
    exact hq
theorem w_Mo_real_135 {d : Nat} {K : UInt64 → Hp → Prop} {y0 : Option Value} {y1 : Option Value} {x2 : Int64} {y4 : Option Value} {y5 : Option Value} {y6 : Option Value} {y7 : Option Value} {x8 : UInt64} {x10 : Int32} {x11 : Int32} {h0 : Hp} (hq :
  (if x11 < x10 then ((FP.dmul x8 (4611686018427387904 : UInt64)) &&& 0x7fffffffffffffff ≤ 0x7ff0000000000000 ∧ (∀ v24 : UInt64, v24 = (FP.dmul x8 (4611686018427387904 : UInt64)) → (∀ v25 : Int32, v25 = (x11 + 1) → Wp (d + 1) m_Mo_real 135 [y0, y1, some (.long x2), none, y4, y5, y6, (yk y7), some (.double v24), none, some (.int x10), some (.int v25)] [] h0 (QD K)))) else Wp (d + 1) m_Mo_real 159 [y0, y1, some (.long x2), none, y4, y5, y6, y7, some (.double x8), none, some (.int x10), some (.int (0 : Int32))] [] h0 (QD K))) : Wp (d + 1) m_Mo_real 135 [y0, y1, some (.long x2), none, y4, y5, y6, y7, some (.double x8), none, some (.int x10), some (.int x11)] [] h0 (QD K) := by
  refine V.iload d_Mo_real_135 rfl ?_
  refine V.iload d_Mo_real_137 rfl ?_
  refine V.ic_ge (t := 156) d_Mo_real_139 ⟨rfl, rfl⟩ (fun hc => ?_) (fun hc => ?_)
  · replace hq := ifp hc hq
    refine V.dload d_Mo_real_142 rfl ?_
    refine V.ldc2_w d_Mo_real_144 rfl ?_
    obtain ⟨g23, hq⟩ := hq
    refine V.dmul d_Mo_real_147 g23 ?_
    replace hq := hq _ rfl
    refine V.dstore (l' := [_, _, _, _, _, _, _, _, _, _, _, _]) d_Mo_real_148 ((st2_alt (ltb rfl)).trans rfl) (ltb rfl) ?_
    replace hq := hq _ rfl
    refine V.iinc (l' := [_, _, _, _, _, _, _, _, _, _, _, _]) d_Mo_real_150 rfl (show _ + _ = _ + (1 : Int32) from rfl) rfl ?_
    refine V.goto (t := 135) d_Mo_real_153 ⟨rfl, rfl⟩ ?_
    exact hq
  · replace hq := ifn hc hq
    refine V.iconst (x := 0) d_Mo_real_156 (by decide) ?_
    refine V.istore (l' := [_, _, _, _, _, _, _, _, _, _, _, _]) d_Mo_real_157 rfl (ltb rfl) ?_
    exact hq
theorem w_Mo_real_159 {d : Nat} {K : UInt64 → Hp → Prop} {y0 : Option Value} {y1 : Option Value} {x2 : Int64} {y4 : Option Value} {y5 : Option Value} {y6 : Option Value} {y7 : Option Value} {x8 : UInt64} {x10 : Int32} {x11 : Int32} {h0 : Hp} (hq :
  (if x10 < x11 then ((FP.dmul x8 (4602678819172646912 : UInt64)) &&& 0x7fffffffffffffff ≤ 0x7ff0000000000000 ∧ (∀ v27 : UInt64, v27 = (FP.dmul x8 (4602678819172646912 : UInt64)) → (∀ v28 : Int32, v28 = (x11 + (-1)) → Wp (d + 1) m_Mo_real 159 [y0, y1, some (.long x2), none, y4, y5, y6, (yk y7), some (.double v27), none, some (.int x10), some (.int v28)] [] h0 (QD K)))) else (if x2 < (0 : Int64) then K (FP.dneg x8) h0 else K x8 h0))) : Wp (d + 1) m_Mo_real 159 [y0, y1, some (.long x2), none, y4, y5, y6, y7, some (.double x8), none, some (.int x10), some (.int x11)] [] h0 (QD K) := by
  refine V.iload d_Mo_real_159 rfl ?_
  refine V.iload d_Mo_real_161 rfl ?_
  refine V.ic_le (t := 180) d_Mo_real_163 ⟨rfl, rfl⟩ (fun hc => ?_) (fun hc => ?_)
  · replace hq := ifp hc hq
    refine V.dload d_Mo_real_166 rfl ?_
    refine V.ldc2_w d_Mo_real_168 rfl ?_
    obtain ⟨g26, hq⟩ := hq
    refine V.dmul d_Mo_real_171 g26 ?_
    replace hq := hq _ rfl
    refine V.dstore (l' := [_, _, _, _, _, _, _, _, _, _, _, _]) d_Mo_real_172 ((st2_alt (ltb rfl)).trans rfl) (ltb rfl) ?_
    replace hq := hq _ rfl
    refine V.iinc (l' := [_, _, _, _, _, _, _, _, _, _, _, _]) d_Mo_real_174 rfl (show _ + _ = _ + (-1 : Int32) from rfl) rfl ?_
    refine V.goto (t := 159) d_Mo_real_177 ⟨rfl, rfl⟩ ?_
    exact hq
  · replace hq := ifn hc hq
    refine V.lload_n d_Mo_real_180 rfl ?_
    refine V.lconst (x := 0) d_Mo_real_181 (by decide) ?_
    refine V.lc_ge d_Mo_real_182 d_Mo_real_183 ⟨rfl, rfl⟩ (fun hc => ?_) (fun hc => ?_)
    · replace hq := ifp hc hq
      refine V.dload d_Mo_real_186 rfl ?_
      refine V.dneg d_Mo_real_188 ?_
      refine V.goto (t := 194) d_Mo_real_189 ⟨rfl, rfl⟩ ?_
      refine V.dret d_Mo_real_194 rfl ?_
      exact V.rD hq
    · replace hq := ifn hc hq
      refine V.dload d_Mo_real_192 rfl ?_
      refine V.dret d_Mo_real_194 rfl ?_
      exact V.rD hq
