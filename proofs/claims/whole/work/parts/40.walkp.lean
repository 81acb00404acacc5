theorem w_Mo_restore {d : Nat} {K : Hp → Prop} {x0 : Nat} {h0 : Hp} (hq :
  ((hS h0 x0).1 = 8 ∧ Ca d m_Mo_scan [.ref x0, .int (1 : Int32)] h0 (QI (fun v2 h3 => ((hS h3 x0).1 = 8 ∧ Ca d m_Mo_soundAll [.ref x0] h3 (QI (fun v6 h7 => K h7))))))) : Ca (d + 1) m_Mo_restore [.ref x0] h0 (QV K) := by
  show Wp _ _ 0 [some (.ref x0), none, none] [] h0 _
  refine V.aload_n d_Mo_restore_0 rfl ?_
  refine V.iconst (x := 1) d_Mo_restore_1 (by decide) ?_
  obtain ⟨g1, hq⟩ := hq
  refine V.callI d_Mo_restore_2 (cV_call (t := [_]) (rs := []) rfl (Or.inl rfl) rfl (lk1 g1) ⟨leb rfl, leb rfl⟩) hq (fun v2 h3 hq => ?_)
  refine V.istore_n (l' := [_, _, _]) d_Mo_restore_5 rfl (ltb rfl) ?_
  refine V.aload_n d_Mo_restore_6 rfl ?_
  obtain ⟨g5, hq⟩ := hq
  refine V.callI d_Mo_restore_7 (cV_call (t := []) (rs := []) rfl (Or.inl rfl) rfl (lk1 g5) ⟨leb rfl, leb rfl⟩) hq (fun v6 h7 hq => ?_)
  refine V.istore_n (l' := [_, _, _]) d_Mo_restore_10 rfl (ltb rfl) ?_
  refine V.vret d_Mo_restore_11 rfl ?_
  exact V.rV hq
theorem w_Mo_size {d : Nat} {K : Int32 → Hp → Prop} {x0 : Nat} {x1 : Int32} {h0 : Hp} (hq :
  ((hS h0 x0).1 = 8 ∧ (∀ h2 : Hp, h2 = sI h0 x0 0 (0 : Int32) → (if (hI h2 x0 5) = 0 then Ca d m_Mo_fail [.ref x0, .int (1 : Int32)] h2 (QI (fun v3 h4 => K v3 h4)) else Ca d m_Mo_restore [.ref x0] h2 (QV (fun h6 => (if x1 = 0 then ((hS h6 x0).1 = 8 ∧ ((hS h6 (hR h6 x0 31)).1 = 21 ∧ (ainr (0 : Int32) (hS h6 (hR h6 x0 31)).2 = true ∧ K ((hL h6 (hR h6 x0 31) (0 : Int32).toNatClampNeg).toInt32) h6))) else ((hS h6 x0).1 = 8 ∧ ((hS h6 (hR h6 x0 32)).1 = 21 ∧ (ainr (0 : Int32) (hS h6 (hR h6 x0 32)).2 = true ∧ K ((hL h6 (hR h6 x0 32) (0 : Int32).toNatClampNeg).toInt32) h6)))))))))) : Ca (d + 1) m_Mo_size [.ref x0, .int x1] h0 (QI K) := by
  show Wp _ _ 0 [some (.ref x0), some (.int x1)] [] h0 _
  refine V.aload_n d_Mo_size_0 rfl ?_
  refine V.iconst (x := 0) d_Mo_size_1 (by decide) ?_
  obtain ⟨g1, hq⟩ := hq
  refine V.put0 d_Mo_size_2 rfl (Or.inl rfl) (List.mem_singleton.mpr g1) ?_
  replace hq := hq _ rfl
  refine V.aload_n d_Mo_size_5 rfl ?_
  refine V.get3 d_Mo_size_6 rfl (List.mem_singleton.mpr g1) ?_
  refine V.if_ne (t := 18) d_Mo_size_9 ⟨rfl, rfl⟩ (fun hc => ?_) (fun hc => ?_)
  · replace hq := ifp hc hq
    refine V.aload_n d_Mo_size_12 rfl ?_
    refine V.iconst (x := 1) d_Mo_size_13 (by decide) ?_
    refine V.callI d_Mo_size_14 (cV_call (t := [_]) (rs := []) rfl (Or.inl rfl) rfl (lk1 g1) ⟨leb rfl, leb rfl⟩) hq (fun v3 h4 hq => ?_)
    refine V.iret d_Mo_size_17 rfl ?_
    exact V.rI hq
  · replace hq := ifn hc hq
    refine V.aload_n d_Mo_size_18 rfl ?_
    refine V.callV d_Mo_size_19 (cV_call (t := []) (rs := []) rfl (Or.inl rfl) rfl (lk1 g1) ⟨leb rfl, leb rfl⟩) hq (fun h6 hq => ?_)
    refine V.iload_n d_Mo_size_22 rfl ?_
    refine V.if_eq (t := 35) d_Mo_size_23 ⟨rfl, rfl⟩ (fun hc => ?_) (fun hc => ?_)
    · replace hq := ifp hc hq
      refine V.aload_n d_Mo_size_35 rfl ?_
      obtain ⟨g8, hq⟩ := hq
      refine V.get2 d_Mo_size_36 rfl (List.mem_singleton.mpr g8) ?_
      refine V.iconst (x := 0) d_Mo_size_39 (by decide) ?_
      obtain ⟨g9, hq⟩ := hq
      obtain ⟨g10, hq⟩ := hq
      refine V.laload d_Mo_size_40 g9 g10 ?_
      refine V.l2i d_Mo_size_41 ?_
      refine V.iret d_Mo_size_42 rfl ?_
      exact V.rI hq
    · replace hq := ifn hc hq
      refine V.aload_n d_Mo_size_26 rfl ?_
      obtain ⟨g11, hq⟩ := hq
      refine V.get2 d_Mo_size_27 rfl (List.mem_singleton.mpr g11) ?_
      refine V.iconst (x := 0) d_Mo_size_30 (by decide) ?_
      obtain ⟨g12, hq⟩ := hq
      obtain ⟨g13, hq⟩ := hq
      refine V.laload d_Mo_size_31 g12 g13 ?_
      refine V.goto (t := 41) d_Mo_size_32 ⟨rfl, rfl⟩ ?_
      refine V.l2i d_Mo_size_41 ?_
      refine V.iret d_Mo_size_42 rfl ?_
      exact V.rI hq
theorem w_Mo_put {d : Nat} {K : Int32 → Hp → Prop} {x0 : Nat} {x1 : Int64} {x3 : Int32} {h0 : Hp} (hq :
  ((hS h0 x0).1 = 8 ∧ (∀ h2 : Hp, h2 = sI h0 x0 0 (0 : Int32) → (if x3 < (1 : Int32) then Ca d m_Mo_fail [.ref x0, .int (1 : Int32)] h2 (QI (fun v3 h4 => K v3 h4)) else (if (8 : Int32) < x3 then Ca d m_Mo_fail [.ref x0, .int (1 : Int32)] h2 (QI (fun v6 h7 => K v6 h7)) else (if (120 : Int32) < ((hI h2 x0 7) + x3) then Ca d m_Mo_fail [.ref x0, .int (2 : Int32)] h2 (QI (fun v9 h10 => K v9 h10)) else (∀ v12 : Int32, v12 = (x3 - (1 : Int32)) → Wp (d + 1) m_Mo_put 44 [some (.ref x0), some (.long x1), none, some (.int x3), some (.int v12)] [] h2 (QI K)))))))) : Ca (d + 1) m_Mo_put [.ref x0, .long x1, .int x3] h0 (QI K) := by
  show Wp _ _ 0 [some (.ref x0), some (.long x1), none, some (.int x3), none] [] h0 _
  refine V.aload_n d_Mo_put_0 rfl ?_
  refine V.iconst (x := 0) d_Mo_put_1 (by decide) ?_
  obtain ⟨g1, hq⟩ := hq
  refine V.put0 d_Mo_put_2 rfl (Or.inl rfl) (List.mem_singleton.mpr g1) ?_
  replace hq := hq _ rfl
  refine V.iload_n d_Mo_put_5 rfl ?_
  refine V.iconst (x := 1) d_Mo_put_6 (by decide) ?_
  refine V.ic_lt (t := 16) d_Mo_put_7 ⟨rfl, rfl⟩ (fun hc => ?_) (fun hc => ?_)
  · replace hq := ifp hc hq
    refine V.aload_n d_Mo_put_16 rfl ?_
    refine V.iconst (x := 1) d_Mo_put_17 (by decide) ?_
    refine V.callI d_Mo_put_18 (cV_call (t := [_]) (rs := []) rfl (Or.inl rfl) rfl (lk1 g1) ⟨leb rfl, leb rfl⟩) hq (fun v3 h4 hq => ?_)
    refine V.iret d_Mo_put_21 rfl ?_
    exact V.rI hq
  · replace hq := ifn hc hq
    refine V.iload_n d_Mo_put_10 rfl ?_
    refine V.bipush (x := 8) d_Mo_put_11 (by decide) ?_
    refine V.ic_le (t := 22) d_Mo_put_13 ⟨rfl, rfl⟩ (fun hc => ?_) (fun hc => ?_)
    · replace hq := ifp hc hq
      refine V.aload_n d_Mo_put_16 rfl ?_
      refine V.iconst (x := 1) d_Mo_put_17 (by decide) ?_
      refine V.callI d_Mo_put_18 (cV_call (t := [_]) (rs := []) rfl (Or.inl rfl) rfl (lk1 g1) ⟨leb rfl, leb rfl⟩) hq (fun v6 h7 hq => ?_)
      refine V.iret d_Mo_put_21 rfl ?_
      exact V.rI hq
    · replace hq := ifn hc hq
      refine V.aload_n d_Mo_put_22 rfl ?_
      refine V.get0 d_Mo_put_23 rfl (List.mem_singleton.mpr g1) ?_
      refine V.iload_n d_Mo_put_26 rfl ?_
      refine V.iadd d_Mo_put_27 ?_
      refine V.bipush (x := 120) d_Mo_put_28 (by decide) ?_
      refine V.ic_le (t := 39) d_Mo_put_30 ⟨rfl, rfl⟩ (fun hc => ?_) (fun hc => ?_)
      · replace hq := ifp hc hq
        refine V.aload_n d_Mo_put_33 rfl ?_
        refine V.iconst (x := 2) d_Mo_put_34 (by decide) ?_
        refine V.callI d_Mo_put_35 (cV_call (t := [_]) (rs := []) rfl (Or.inl rfl) rfl (lk1 g1) ⟨leb rfl, leb rfl⟩) hq (fun v9 h10 hq => ?_)
        refine V.iret d_Mo_put_38 rfl ?_
        exact V.rI hq
      · replace hq := ifn hc hq
        refine V.iload_n d_Mo_put_39 rfl ?_
        refine V.iconst (x := 1) d_Mo_put_40 (by decide) ?_
        refine V.isub d_Mo_put_41 ?_
        replace hq := hq _ rfl
        refine V.istore (l' := [_, _, _, _, _]) d_Mo_put_42 rfl (ltb rfl) ?_
        exact hq
theorem w_Mo_put_44 {d : Nat} {K : Int32 → Hp → Prop} {x0 : Nat} {x1 : Int64} {y3 : Option Value} {x4 : Int32} {h0 : Hp} (hq :
  (if x4 < 0 then ((hS h0 x0).1 = 8 ∧ K (hI h0 x0 7) h0) else ((hS h0 x0).1 = 8 ∧ ((hS h0 (hR h0 x0 6)).1 = 20 ∧ (¬ (hR h0 x0 6) = 1 ∧ (ainr (hI h0 x0 7) (hS h0 (hR h0 x0 6)).2 = true ∧ (∀ h18 : Hp, h18 = sI h0 (hR h0 x0 6) (hI h0 x0 7).toNatClampNeg (((x1 >>> (((8 : Int32) * x4).toInt64 &&& 63)).toInt32) &&& (255 : Int32)) → (∀ h19 : Hp, h19 = sI h18 x0 7 ((hI h18 x0 7) + (1 : Int32)) → (∀ v20 : Int32, v20 = (x4 + (-1)) → Wp (d + 1) m_Mo_put 44 [some (.ref x0), some (.long x1), none, (yk y3), some (.int v20)] [] h19 (QI K)))))))))) : Wp (d + 1) m_Mo_put 44 [some (.ref x0), some (.long x1), none, y3, some (.int x4)] [] h0 (QI K) := by
  refine V.iload d_Mo_put_44 rfl ?_
  refine V.if_lt (t := 86) d_Mo_put_46 ⟨rfl, rfl⟩ (fun hc => ?_) (fun hc => ?_)
  · replace hq := ifp hc hq
    refine V.aload_n d_Mo_put_86 rfl ?_
    obtain ⟨g13, hq⟩ := hq
    refine V.get0 d_Mo_put_87 rfl (List.mem_singleton.mpr g13) ?_
    refine V.iret d_Mo_put_90 rfl ?_
    exact V.rI hq
  · replace hq := ifn hc hq
    refine V.aload_n d_Mo_put_49 rfl ?_
    obtain ⟨g14, hq⟩ := hq
    refine V.get2 d_Mo_put_50 rfl (List.mem_singleton.mpr g14) ?_
    refine V.aload_n d_Mo_put_53 rfl ?_
    refine V.get0 d_Mo_put_54 rfl (List.mem_singleton.mpr g14) ?_
    refine V.lload_n d_Mo_put_57 rfl ?_
    refine V.bipush (x := 8) d_Mo_put_58 (by decide) ?_
    refine V.iload d_Mo_put_60 rfl ?_
    refine V.imul d_Mo_put_62 ?_
    refine V.lshr d_Mo_put_63 ?_
    refine V.l2i d_Mo_put_64 ?_
    refine V.sipush (x := 255) d_Mo_put_65 (by decide) ?_
    refine V.iand d_Mo_put_68 ?_
    obtain ⟨g15, hq⟩ := hq
    obtain ⟨g16, hq⟩ := hq
    obtain ⟨g17, hq⟩ := hq
    refine V.iastore d_Mo_put_69 g15 g16 g17 ?_
    replace hq := hq _ rfl
    refine V.aload_n d_Mo_put_70 rfl ?_
    refine V.dupR d_Mo_put_71 ?_
    refine V.get0 d_Mo_put_72 rfl (List.mem_singleton.mpr g14) ?_
    refine V.iconst (x := 1) d_Mo_put_75 (by decide) ?_
    refine V.iadd d_Mo_put_76 ?_
    refine V.put0 d_Mo_put_77 rfl (Or.inl rfl) (List.mem_singleton.mpr g14) ?_
    replace hq := hq _ rfl
    replace hq := hq _ rfl
    refine V.iinc (l' := [_, _, _, _, _]) d_Mo_put_80 rfl (show _ + _ = _ + (-1 : Int32) from rfl) ((st1_alt (ltb rfl)).trans rfl) ?_
    refine V.goto (t := 44) d_Mo_put_83 ⟨rfl, rfl⟩ ?_
    exact hq
theorem w_Mo_cut {d : Nat} {K : Int32 → Hp → Prop} {x0 : Nat} {x1 : Int32} {h0 : Hp} (hq :
  ((hS h0 x0).1 = 8 ∧ (∀ h2 : Hp, h2 = sI h0 x0 0 (0 : Int32) → (if x1 < 0 then Ca d m_Mo_fail [.ref x0, .int (1 : Int32)] h2 (QI (fun v3 h4 => K v3 h4)) else (if (hI h2 x0 7) < x1 then Ca d m_Mo_fail [.ref x0, .int (1 : Int32)] h2 (QI (fun v6 h7 => K v6 h7)) else (∀ h9 : Hp, h9 = sI h2 x0 7 x1 → K (hI h9 x0 7) h9)))))) : Ca (d + 1) m_Mo_cut [.ref x0, .int x1] h0 (QI K) := by
  show Wp _ _ 0 [some (.ref x0), some (.int x1)] [] h0 _
  refine V.aload_n d_Mo_cut_0 rfl ?_
  refine V.iconst (x := 0) d_Mo_cut_1 (by decide) ?_
  obtain ⟨g1, hq⟩ := hq
  refine V.put0 d_Mo_cut_2 rfl (Or.inl rfl) (List.mem_singleton.mpr g1) ?_
  replace hq := hq _ rfl
  refine V.iload_n d_Mo_cut_5 rfl ?_
  refine V.if_lt (t := 17) d_Mo_cut_6 ⟨rfl, rfl⟩ (fun hc => ?_) (fun hc => ?_)
  · replace hq := ifp hc hq
    refine V.aload_n d_Mo_cut_17 rfl ?_
    refine V.iconst (x := 1) d_Mo_cut_18 (by decide) ?_
    refine V.callI d_Mo_cut_19 (cV_call (t := [_]) (rs := []) rfl (Or.inl rfl) rfl (lk1 g1) ⟨leb rfl, leb rfl⟩) hq (fun v3 h4 hq => ?_)
    refine V.iret d_Mo_cut_22 rfl ?_
    exact V.rI hq
  · replace hq := ifn hc hq
    refine V.iload_n d_Mo_cut_9 rfl ?_
    refine V.aload_n d_Mo_cut_10 rfl ?_
    refine V.get0 d_Mo_cut_11 rfl (List.mem_singleton.mpr g1) ?_
    refine V.ic_le (t := 23) d_Mo_cut_14 ⟨rfl, rfl⟩ (fun hc => ?_) (fun hc => ?_)
    · replace hq := ifp hc hq
      refine V.aload_n d_Mo_cut_17 rfl ?_
      refine V.iconst (x := 1) d_Mo_cut_18 (by decide) ?_
      refine V.callI d_Mo_cut_19 (cV_call (t := [_]) (rs := []) rfl (Or.inl rfl) rfl (lk1 g1) ⟨leb rfl, leb rfl⟩) hq (fun v6 h7 hq => ?_)
      refine V.iret d_Mo_cut_22 rfl ?_
      exact V.rI hq
    · replace hq := ifn hc hq
      refine V.aload_n d_Mo_cut_23 rfl ?_
      refine V.iload_n d_Mo_cut_24 rfl ?_
      refine V.put0 d_Mo_cut_25 rfl (Or.inl rfl) (List.mem_singleton.mpr g1) ?_
      replace hq := hq _ rfl
      refine V.aload_n d_Mo_cut_28 rfl ?_
      refine V.get0 d_Mo_cut_29 rfl (List.mem_singleton.mpr g1) ?_
      refine V.iret d_Mo_cut_32 rfl ?_
      exact V.rI hq
theorem w_Mo_wrong {d : Nat} {K : Hp → Prop} {x0 : Nat} {x1 : Int32} {h0 : Hp} (hq :
  (if x1 = 0 then K h0 else ((hS h0 x0).1 = 8 ∧ (if (hI h0 x0 41) = 0 then (∀ h2 : Hp, h2 = sI h0 x0 41 (3 : Int32) → K h2) else K h0)))) : Ca d m_Mo_wrong [.ref x0, .int x1] h0 (QV K) := by
  show Wp _ _ 0 [some (.ref x0), some (.int x1)] [] h0 _
  refine V.iload_n d_Mo_wrong_0 rfl ?_
  refine V.if_eq (t := 16) d_Mo_wrong_1 ⟨rfl, rfl⟩ (fun hc => ?_) (fun hc => ?_)
  · replace hq := ifp hc hq
    refine V.vret d_Mo_wrong_16 rfl ?_
    exact V.rV hq
  · replace hq := ifn hc hq
    refine V.aload_n d_Mo_wrong_4 rfl ?_
    obtain ⟨g1, hq⟩ := hq
    refine V.get0 d_Mo_wrong_5 rfl (List.mem_singleton.mpr g1) ?_
    refine V.if_ne (t := 16) d_Mo_wrong_8 ⟨rfl, rfl⟩ (fun hc => ?_) (fun hc => ?_)
    · replace hq := ifp hc hq
      refine V.aload_n d_Mo_wrong_11 rfl ?_
      refine V.iconst (x := 3) d_Mo_wrong_12 (by decide) ?_
      refine V.put0 d_Mo_wrong_13 rfl (Or.inl rfl) (List.mem_singleton.mpr g1) ?_
      replace hq := hq _ rfl
      refine V.vret d_Mo_wrong_16 rfl ?_
      exact V.rV hq
    · replace hq := ifn hc hq
      refine V.vret d_Mo_wrong_16 rfl ?_
      exact V.rV hq
theorem w_Mo_nextByte {d : Nat} {K : Int32 → Hp → Prop} {x0 : Nat} {h0 : Hp} (hq :
  ((hS h0 x0).1 = 8 ∧ (if (hI h0 x0 42) < (hI h0 x0 7) then Wp d m_Mo_nextByte 23 [some (.ref x0)] [] h0 (QI K) else (if (hI h0 x0 41) = 0 then (∀ h2 : Hp, h2 = sI h0 x0 41 (2 : Int32) → Wp d m_Mo_nextByte 23 [some (.ref x0)] [] h2 (QI K)) else Wp d m_Mo_nextByte 23 [some (.ref x0)] [] h0 (QI K))))) : Ca d m_Mo_nextByte [.ref x0] h0 (QI K) := by
  show Wp _ _ 0 [some (.ref x0)] [] h0 _
  refine V.aload_n d_Mo_nextByte_0 rfl ?_
  obtain ⟨g1, hq⟩ := hq
  refine V.get0 d_Mo_nextByte_1 rfl (List.mem_singleton.mpr g1) ?_
  refine V.aload_n d_Mo_nextByte_4 rfl ?_
  refine V.get0 d_Mo_nextByte_5 rfl (List.mem_singleton.mpr g1) ?_
  refine V.ic_lt (t := 23) d_Mo_nextByte_8 ⟨rfl, rfl⟩ (fun hc => ?_) (fun hc => ?_)
  · replace hq := ifp hc hq
    exact hq
  · replace hq := ifn hc hq
    refine V.aload_n d_Mo_nextByte_11 rfl ?_
    refine V.get0 d_Mo_nextByte_12 rfl (List.mem_singleton.mpr g1) ?_
    refine V.if_ne (t := 23) d_Mo_nextByte_15 ⟨rfl, rfl⟩ (fun hc => ?_) (fun hc => ?_)
    · replace hq := ifp hc hq
      refine V.aload_n d_Mo_nextByte_18 rfl ?_
      refine V.iconst (x := 2) d_Mo_nextByte_19 (by decide) ?_
      refine V.put0 d_Mo_nextByte_20 rfl (Or.inl rfl) (List.mem_singleton.mpr g1) ?_
      replace hq := hq _ rfl
      exact hq
    · replace hq := ifn hc hq
      exact hq
theorem w_Mo_nextByte_23 {d : Nat} {K : Int32 → Hp → Prop} {x0 : Nat} {h0 : Hp} (hq :
  ((hS h0 x0).1 = 8 ∧ (if 0 < (hI h0 x0 41) then K (0 : Int32) h0 else (∀ h4 : Hp, h4 = sI h0 x0 42 ((hI h0 x0 42) + (1 : Int32)) → ((hS h0 (hR h4 x0 6)).1 = 20 ∧ (ainr ((hI h4 x0 42) - (1 : Int32)) (hS h0 (hR h4 x0 6)).2 = true ∧ K (hI h4 (hR h4 x0 6) ((hI h4 x0 42) - (1 : Int32)).toNatClampNeg) h4)))))) : Wp d m_Mo_nextByte 23 [some (.ref x0)] [] h0 (QI K) := by
  refine V.aload_n d_Mo_nextByte_23 rfl ?_
  obtain ⟨g3, hq⟩ := hq
  refine V.get0 d_Mo_nextByte_24 rfl (List.mem_singleton.mpr g3) ?_
  refine V.if_le (t := 32) d_Mo_nextByte_27 ⟨rfl, rfl⟩ (fun hc => ?_) (fun hc => ?_)
  · replace hq := ifp hc hq
    refine V.iconst (x := 0) d_Mo_nextByte_30 (by decide) ?_
    refine V.iret d_Mo_nextByte_31 rfl ?_
    exact V.rI hq
  · replace hq := ifn hc hq
    refine V.aload_n d_Mo_nextByte_32 rfl ?_
    refine V.dupR d_Mo_nextByte_33 ?_
    refine V.get0 d_Mo_nextByte_34 rfl (List.mem_singleton.mpr g3) ?_
    refine V.iconst (x := 1) d_Mo_nextByte_37 (by decide) ?_
    refine V.iadd d_Mo_nextByte_38 ?_
    refine V.put0 d_Mo_nextByte_39 rfl (Or.inl rfl) (List.mem_singleton.mpr g3) ?_
    replace hq := hq _ rfl
    refine V.aload_n d_Mo_nextByte_42 rfl ?_
    refine V.get2 d_Mo_nextByte_43 rfl (List.mem_singleton.mpr g3) ?_
    refine V.aload_n d_Mo_nextByte_46 rfl ?_
    refine V.get0 d_Mo_nextByte_47 rfl (List.mem_singleton.mpr g3) ?_
    refine V.iconst (x := 1) d_Mo_nextByte_50 (by decide) ?_
    refine V.isub d_Mo_nextByte_51 ?_
    obtain ⟨g5, hq⟩ := hq
    obtain ⟨g6, hq⟩ := hq
    refine V.iaload d_Mo_nextByte_52 g5 g6 ?_
    refine V.iret d_Mo_nextByte_53 rfl ?_
    exact V.rI hq
theorem w_Mo_putByte {d : Nat} {K : Hp → Prop} {x0 : Nat} {x1 : Int32} {h0 : Hp} (hq :
  ((hS h0 x0).1 = 8 ∧ (if (hI h0 x0 42) = (120 : Int32) then Ca d m_Mo_wrong [.ref x0, .int (1 : Int32)] h0 (QV (fun h2 => ((hS h2 x0).1 = 8 ∧ (if 0 < (hI h2 x0 41) then K h2 else ((hS h2 (hR h2 x0 44)).1 = 20 ∧ (¬ (hR h2 x0 44) = 1 ∧ (ainr (hI h2 x0 42) (hS h2 (hR h2 x0 44)).2 = true ∧ (∀ h8 : Hp, h8 = sI h2 (hR h2 x0 44) (hI h2 x0 42).toNatClampNeg (x1 &&& (255 : Int32)) → (∀ h9 : Hp, h9 = sI h8 x0 42 ((hI h8 x0 42) + (1 : Int32)) → K h9))))))))) else Ca d m_Mo_wrong [.ref x0, .int (0 : Int32)] h0 (QV (fun h10 => ((hS h10 x0).1 = 8 ∧ (if 0 < (hI h10 x0 41) then K h10 else ((hS h10 (hR h10 x0 44)).1 = 20 ∧ (¬ (hR h10 x0 44) = 1 ∧ (ainr (hI h10 x0 42) (hS h10 (hR h10 x0 44)).2 = true ∧ (∀ h16 : Hp, h16 = sI h10 (hR h10 x0 44) (hI h10 x0 42).toNatClampNeg (x1 &&& (255 : Int32)) → (∀ h17 : Hp, h17 = sI h16 x0 42 ((hI h16 x0 42) + (1 : Int32)) → K h17)))))))))))) : Ca (d + 1) m_Mo_putByte [.ref x0, .int x1] h0 (QV K) := by
  show Wp _ _ 0 [some (.ref x0), some (.int x1)] [] h0 _
  refine V.aload_n d_Mo_putByte_0 rfl ?_
  refine V.aload_n d_Mo_putByte_1 rfl ?_
  obtain ⟨g1, hq⟩ := hq
  refine V.get0 d_Mo_putByte_2 rfl (List.mem_singleton.mpr g1) ?_
  refine V.bipush (x := 120) d_Mo_putByte_5 (by decide) ?_
  refine V.ic_ne (t := 14) d_Mo_putByte_7 ⟨rfl, rfl⟩ (fun hc => ?_) (fun hc => ?_)
  · replace hq := ifp hc hq
    refine V.iconst (x := 1) d_Mo_putByte_10 (by decide) ?_
    refine V.goto (t := 15) d_Mo_putByte_11 ⟨rfl, rfl⟩ ?_
    refine V.callV d_Mo_putByte_15 (cV_call (t := [_]) (rs := []) rfl (Or.inl rfl) rfl (lk1 g1) ⟨leb rfl, leb rfl⟩) hq (fun h2 hq => ?_)
    refine V.aload_n d_Mo_putByte_18 rfl ?_
    obtain ⟨g4, hq⟩ := hq
    refine V.get0 d_Mo_putByte_19 rfl (List.mem_singleton.mpr g4) ?_
    refine V.if_le (t := 26) d_Mo_putByte_22 ⟨rfl, rfl⟩ (fun hc => ?_) (fun hc => ?_)
    · replace hq := ifp hc hq
      refine V.vret d_Mo_putByte_25 rfl ?_
      exact V.rV hq
    · replace hq := ifn hc hq
      refine V.aload_n d_Mo_putByte_26 rfl ?_
      refine V.get2 d_Mo_putByte_27 rfl (List.mem_singleton.mpr g4) ?_
      refine V.aload_n d_Mo_putByte_30 rfl ?_
      refine V.get0 d_Mo_putByte_31 rfl (List.mem_singleton.mpr g4) ?_
      refine V.iload_n d_Mo_putByte_34 rfl ?_
      refine V.sipush (x := 255) d_Mo_putByte_35 (by decide) ?_
      refine V.iand d_Mo_putByte_38 ?_
      obtain ⟨g5, hq⟩ := hq
      obtain ⟨g6, hq⟩ := hq
      obtain ⟨g7, hq⟩ := hq
      refine V.iastore d_Mo_putByte_39 g5 g6 g7 ?_
      replace hq := hq _ rfl
      refine V.aload_n d_Mo_putByte_40 rfl ?_
      refine V.dupR d_Mo_putByte_41 ?_
      refine V.get0 d_Mo_putByte_42 rfl (List.mem_singleton.mpr g4) ?_
      refine V.iconst (x := 1) d_Mo_putByte_45 (by decide) ?_
      refine V.iadd d_Mo_putByte_46 ?_
      refine V.put0 d_Mo_putByte_47 rfl (Or.inl rfl) (List.mem_singleton.mpr g4) ?_
      replace hq := hq _ rfl
      refine V.vret d_Mo_putByte_50 rfl ?_
      exact V.rV hq
  · replace hq := ifn hc hq
    refine V.iconst (x := 0) d_Mo_putByte_14 (by decide) ?_
    refine V.callV d_Mo_putByte_15 (cV_call (t := [_]) (rs := []) rfl (Or.inl rfl) rfl (lk1 g1) ⟨leb rfl, leb rfl⟩) hq (fun h10 hq => ?_)
    refine V.aload_n d_Mo_putByte_18 rfl ?_
    obtain ⟨g12, hq⟩ := hq
    refine V.get0 d_Mo_putByte_19 rfl (List.mem_singleton.mpr g12) ?_
    refine V.if_le (t := 26) d_Mo_putByte_22 ⟨rfl, rfl⟩ (fun hc => ?_) (fun hc => ?_)
    · replace hq := ifp hc hq
      refine V.vret d_Mo_putByte_25 rfl ?_
      exact V.rV hq
    · replace hq := ifn hc hq
      refine V.aload_n d_Mo_putByte_26 rfl ?_
      refine V.get2 d_Mo_putByte_27 rfl (List.mem_singleton.mpr g12) ?_
      refine V.aload_n d_Mo_putByte_30 rfl ?_
      refine V.get0 d_Mo_putByte_31 rfl (List.mem_singleton.mpr g12) ?_
      refine V.iload_n d_Mo_putByte_34 rfl ?_
      refine V.sipush (x := 255) d_Mo_putByte_35 (by decide) ?_
      refine V.iand d_Mo_putByte_38 ?_
      obtain ⟨g13, hq⟩ := hq
      obtain ⟨g14, hq⟩ := hq
      obtain ⟨g15, hq⟩ := hq
      refine V.iastore d_Mo_putByte_39 g13 g14 g15 ?_
      replace hq := hq _ rfl
      refine V.aload_n d_Mo_putByte_40 rfl ?_
      refine V.dupR d_Mo_putByte_41 ?_
      refine V.get0 d_Mo_putByte_42 rfl (List.mem_singleton.mpr g12) ?_
      refine V.iconst (x := 1) d_Mo_putByte_45 (by decide) ?_
      refine V.iadd d_Mo_putByte_46 ?_
      refine V.put0 d_Mo_putByte_47 rfl (Or.inl rfl) (List.mem_singleton.mpr g12) ?_
      replace hq := hq _ rfl
      refine V.vret d_Mo_putByte_50 rfl ?_
      exact V.rV hq
theorem w_Mo_take {d : Nat} {K : Int64 → Hp → Prop} {x0 : Nat} {h0 : Hp} (hq :
  ((hS h0 x0).1 = 8 ∧ (if (hI h0 x0 46) = (hI h0 x0 9) then (if (hI h0 x0 41) = 0 then (∀ h2 : Hp, h2 = sI h0 x0 41 (2 : Int32) → Wp d m_Mo_take 23 [some (.ref x0)] [] h2 (QL K)) else Wp d m_Mo_take 23 [some (.ref x0)] [] h0 (QL K)) else Wp d m_Mo_take 23 [some (.ref x0)] [] h0 (QL K)))) : Ca d m_Mo_take [.ref x0] h0 (QL K) := by
  show Wp _ _ 0 [some (.ref x0)] [] h0 _
  refine V.aload_n d_Mo_take_0 rfl ?_
  obtain ⟨g1, hq⟩ := hq
  refine V.get0 d_Mo_take_1 rfl (List.mem_singleton.mpr g1) ?_
  refine V.aload_n d_Mo_take_4 rfl ?_
  refine V.get0 d_Mo_take_5 rfl (List.mem_singleton.mpr g1) ?_
  refine V.ic_ne (t := 23) d_Mo_take_8 ⟨rfl, rfl⟩ (fun hc => ?_) (fun hc => ?_)
  · replace hq := ifp hc hq
    refine V.aload_n d_Mo_take_11 rfl ?_
    refine V.get0 d_Mo_take_12 rfl (List.mem_singleton.mpr g1) ?_
    refine V.if_ne (t := 23) d_Mo_take_15 ⟨rfl, rfl⟩ (fun hc => ?_) (fun hc => ?_)
    · replace hq := ifp hc hq
      refine V.aload_n d_Mo_take_18 rfl ?_
      refine V.iconst (x := 2) d_Mo_take_19 (by decide) ?_
      refine V.put0 d_Mo_take_20 rfl (Or.inl rfl) (List.mem_singleton.mpr g1) ?_
      replace hq := hq _ rfl
      exact hq
    · replace hq := ifn hc hq
      exact hq
  · replace hq := ifn hc hq
    exact hq
theorem w_Mo_take_23 {d : Nat} {K : Int64 → Hp → Prop} {x0 : Nat} {h0 : Hp} (hq :
  ((hS h0 x0).1 = 8 ∧ (if 0 < (hI h0 x0 41) then K (0 : Int64) h0 else (∀ h4 : Hp, h4 = sI h0 x0 46 ((hI h0 x0 46) + (1 : Int32)) → ((hS h0 (hR h4 x0 8)).1 = 21 ∧ (ainr ((hI h4 x0 46) - (1 : Int32)) (hS h0 (hR h4 x0 8)).2 = true ∧ K (hL h4 (hR h4 x0 8) ((hI h4 x0 46) - (1 : Int32)).toNatClampNeg) h4)))))) : Wp d m_Mo_take 23 [some (.ref x0)] [] h0 (QL K) := by
  refine V.aload_n d_Mo_take_23 rfl ?_
  obtain ⟨g3, hq⟩ := hq
  refine V.get0 d_Mo_take_24 rfl (List.mem_singleton.mpr g3) ?_
  refine V.if_le (t := 32) d_Mo_take_27 ⟨rfl, rfl⟩ (fun hc => ?_) (fun hc => ?_)
  · replace hq := ifp hc hq
    refine V.lconst (x := 0) d_Mo_take_30 (by decide) ?_
    refine V.lret d_Mo_take_31 rfl ?_
    exact V.rL hq
  · replace hq := ifn hc hq
    refine V.aload_n d_Mo_take_32 rfl ?_
    refine V.dupR d_Mo_take_33 ?_
    refine V.get0 d_Mo_take_34 rfl (List.mem_singleton.mpr g3) ?_
    refine V.iconst (x := 1) d_Mo_take_37 (by decide) ?_
    refine V.iadd d_Mo_take_38 ?_
    refine V.put0 d_Mo_take_39 rfl (Or.inl rfl) (List.mem_singleton.mpr g3) ?_
    replace hq := hq _ rfl
    refine V.aload_n d_Mo_take_42 rfl ?_
    refine V.get2 d_Mo_take_43 rfl (List.mem_singleton.mpr g3) ?_
    refine V.aload_n d_Mo_take_46 rfl ?_
    refine V.get0 d_Mo_take_47 rfl (List.mem_singleton.mpr g3) ?_
    refine V.iconst (x := 1) d_Mo_take_50 (by decide) ?_
    refine V.isub d_Mo_take_51 ?_
    obtain ⟨g5, hq⟩ := hq
    obtain ⟨g6, hq⟩ := hq
    refine V.laload d_Mo_take_52 g5 g6 ?_
    refine V.lret d_Mo_take_53 rfl ?_
    exact V.rL hq
theorem w_Mo_give {d : Nat} {K : Hp → Prop} {x0 : Nat} {x1 : Int64} {h0 : Hp} (hq :
  ((hS h0 x0).1 = 8 ∧ (if (hI h0 x0 46) = (160 : Int32) then Ca d m_Mo_wrong [.ref x0, .int (1 : Int32)] h0 (QV (fun h2 => ((hS h2 x0).1 = 8 ∧ (if 0 < (hI h2 x0 41) then K h2 else ((hS h2 (hR h2 x0 45)).1 = 21 ∧ (¬ (hR h2 x0 45) = 1 ∧ (ainr (hI h2 x0 46) (hS h2 (hR h2 x0 45)).2 = true ∧ (∀ h8 : Hp, h8 = sL h2 (hR h2 x0 45) (hI h2 x0 46).toNatClampNeg x1 → (∀ h9 : Hp, h9 = sI h8 x0 46 ((hI h8 x0 46) + (1 : Int32)) → K h9))))))))) else Ca d m_Mo_wrong [.ref x0, .int (0 : Int32)] h0 (QV (fun h10 => ((hS h10 x0).1 = 8 ∧ (if 0 < (hI h10 x0 41) then K h10 else ((hS h10 (hR h10 x0 45)).1 = 21 ∧ (¬ (hR h10 x0 45) = 1 ∧ (ainr (hI h10 x0 46) (hS h10 (hR h10 x0 45)).2 = true ∧ (∀ h16 : Hp, h16 = sL h10 (hR h10 x0 45) (hI h10 x0 46).toNatClampNeg x1 → (∀ h17 : Hp, h17 = sI h16 x0 46 ((hI h16 x0 46) + (1 : Int32)) → K h17)))))))))))) : Ca (d + 1) m_Mo_give [.ref x0, .long x1] h0 (QV K) := by
  show Wp _ _ 0 [some (.ref x0), some (.long x1), none] [] h0 _
  refine V.aload_n d_Mo_give_0 rfl ?_
  refine V.aload_n d_Mo_give_1 rfl ?_
  obtain ⟨g1, hq⟩ := hq
  refine V.get0 d_Mo_give_2 rfl (List.mem_singleton.mpr g1) ?_
  refine V.sipush (x := 160) d_Mo_give_5 (by decide) ?_
  refine V.ic_ne (t := 15) d_Mo_give_8 ⟨rfl, rfl⟩ (fun hc => ?_) (fun hc => ?_)
  · replace hq := ifp hc hq
    refine V.iconst (x := 1) d_Mo_give_11 (by decide) ?_
    refine V.goto (t := 16) d_Mo_give_12 ⟨rfl, rfl⟩ ?_
    refine V.callV d_Mo_give_16 (cV_call (t := [_]) (rs := []) rfl (Or.inl rfl) rfl (lk1 g1) ⟨leb rfl, leb rfl⟩) hq (fun h2 hq => ?_)
    refine V.aload_n d_Mo_give_19 rfl ?_
    obtain ⟨g4, hq⟩ := hq
    refine V.get0 d_Mo_give_20 rfl (List.mem_singleton.mpr g4) ?_
    refine V.if_le (t := 27) d_Mo_give_23 ⟨rfl, rfl⟩ (fun hc => ?_) (fun hc => ?_)
    · replace hq := ifp hc hq
      refine V.vret d_Mo_give_26 rfl ?_
      exact V.rV hq
    · replace hq := ifn hc hq
      refine V.aload_n d_Mo_give_27 rfl ?_
      refine V.get2 d_Mo_give_28 rfl (List.mem_singleton.mpr g4) ?_
      refine V.aload_n d_Mo_give_31 rfl ?_
      refine V.get0 d_Mo_give_32 rfl (List.mem_singleton.mpr g4) ?_
      refine V.lload_n d_Mo_give_35 rfl ?_
      obtain ⟨g5, hq⟩ := hq
      obtain ⟨g6, hq⟩ := hq
      obtain ⟨g7, hq⟩ := hq
      refine V.lastore d_Mo_give_36 g5 g6 g7 ?_
      replace hq := hq _ rfl
      refine V.aload_n d_Mo_give_37 rfl ?_
      refine V.dupR d_Mo_give_38 ?_
      refine V.get0 d_Mo_give_39 rfl (List.mem_singleton.mpr g4) ?_
      refine V.iconst (x := 1) d_Mo_give_42 (by decide) ?_
      refine V.iadd d_Mo_give_43 ?_
      refine V.put0 d_Mo_give_44 rfl (Or.inl rfl) (List.mem_singleton.mpr g4) ?_
      replace hq := hq _ rfl
      refine V.vret d_Mo_give_47 rfl ?_
      exact V.rV hq
  · replace hq := ifn hc hq
    refine V.iconst (x := 0) d_Mo_give_15 (by decide) ?_
    refine V.callV d_Mo_give_16 (cV_call (t := [_]) (rs := []) rfl (Or.inl rfl) rfl (lk1 g1) ⟨leb rfl, leb rfl⟩) hq (fun h10 hq => ?_)
    refine V.aload_n d_Mo_give_19 rfl ?_
    obtain ⟨g12, hq⟩ := hq
    refine V.get0 d_Mo_give_20 rfl (List.mem_singleton.mpr g12) ?_
    refine V.if_le (t := 27) d_Mo_give_23 ⟨rfl, rfl⟩ (fun hc => ?_) (fun hc => ?_)
    · replace hq := ifp hc hq
      refine V.vret d_Mo_give_26 rfl ?_
      exact V.rV hq
    · replace hq := ifn hc hq
      refine V.aload_n d_Mo_give_27 rfl ?_
      refine V.get2 d_Mo_give_28 rfl (List.mem_singleton.mpr g12) ?_
      refine V.aload_n d_Mo_give_31 rfl ?_
      refine V.get0 d_Mo_give_32 rfl (List.mem_singleton.mpr g12) ?_
      refine V.lload_n d_Mo_give_35 rfl ?_
      obtain ⟨g13, hq⟩ := hq
      obtain ⟨g14, hq⟩ := hq
      obtain ⟨g15, hq⟩ := hq
      refine V.lastore d_Mo_give_36 g13 g14 g15 ?_
      replace hq := hq _ rfl
      refine V.aload_n d_Mo_give_37 rfl ?_
      refine V.dupR d_Mo_give_38 ?_
      refine V.get0 d_Mo_give_39 rfl (List.mem_singleton.mpr g12) ?_
      refine V.iconst (x := 1) d_Mo_give_42 (by decide) ?_
      refine V.iadd d_Mo_give_43 ?_
      refine V.put0 d_Mo_give_44 rfl (Or.inl rfl) (List.mem_singleton.mpr g12) ?_
      replace hq := hq _ rfl
      refine V.vret d_Mo_give_47 rfl ?_
      exact V.rV hq
theorem w_Mo_rest {d : Nat} {K : Hp → Prop} {x0 : Nat} {h0 : Hp} (hq :
  ((hS h0 x0).1 = 8 ∧ (if (hI h0 x0 43) < (8 : Int32) then (if (hI h0 x0 40) = 0 then ((hS h0 (hR h0 x0 6)).1 = 20 ∧ (ainr ((hI h0 x0 42) - (1 : Int32)) (hS h0 (hR h0 x0 6)).2 = true ∧ (if ((hI h0 (hR h0 x0 6) ((hI h0 x0 42) - (1 : Int32)).toNatClampNeg) &&& (((1 : Int32) <<< (((8 : Int32) - (hI h0 x0 43)) &&& 31)) - (1 : Int32))) = 0 then Ca d m_Mo_wrong [.ref x0, .int (0 : Int32)] h0 (QV (fun h4 => Wp (d + 1) m_Mo_rest 51 [some (.ref x0)] [] h4 (QV K))) else Ca d m_Mo_wrong [.ref x0, .int (1 : Int32)] h0 (QV (fun h6 => Wp (d + 1) m_Mo_rest 51 [some (.ref x0)] [] h6 (QV K)))))) else Wp (d + 1) m_Mo_rest 51 [some (.ref x0)] [] h0 (QV K)) else Wp (d + 1) m_Mo_rest 51 [some (.ref x0)] [] h0 (QV K)))) : Ca (d + 1) m_Mo_rest [.ref x0] h0 (QV K) := by
  show Wp _ _ 0 [some (.ref x0)] [] h0 _
  refine V.aload_n d_Mo_rest_0 rfl ?_
  obtain ⟨g1, hq⟩ := hq
  refine V.get0 d_Mo_rest_1 rfl (List.mem_singleton.mpr g1) ?_
  refine V.bipush (x := 8) d_Mo_rest_4 (by decide) ?_
  refine V.ic_ge (t := 51) d_Mo_rest_6 ⟨rfl, rfl⟩ (fun hc => ?_) (fun hc => ?_)
  · replace hq := ifp hc hq
    refine V.aload_n d_Mo_rest_9 rfl ?_
    refine V.get3 d_Mo_rest_10 rfl (List.mem_singleton.mpr g1) ?_
    refine V.if_ne (t := 51) d_Mo_rest_13 ⟨rfl, rfl⟩ (fun hc => ?_) (fun hc => ?_)
    · replace hq := ifp hc hq
      refine V.aload_n d_Mo_rest_16 rfl ?_
      refine V.aload_n d_Mo_rest_17 rfl ?_
      refine V.get2 d_Mo_rest_18 rfl (List.mem_singleton.mpr g1) ?_
      refine V.aload_n d_Mo_rest_21 rfl ?_
      refine V.get0 d_Mo_rest_22 rfl (List.mem_singleton.mpr g1) ?_
      refine V.iconst (x := 1) d_Mo_rest_25 (by decide) ?_
      refine V.isub d_Mo_rest_26 ?_
      obtain ⟨g2, hq⟩ := hq
      obtain ⟨g3, hq⟩ := hq
      refine V.iaload d_Mo_rest_27 g2 g3 ?_
      refine V.iconst (x := 1) d_Mo_rest_28 (by decide) ?_
      refine V.bipush (x := 8) d_Mo_rest_29 (by decide) ?_
      refine V.aload_n d_Mo_rest_31 rfl ?_
      refine V.get0 d_Mo_rest_32 rfl (List.mem_singleton.mpr g1) ?_
      refine V.isub d_Mo_rest_35 ?_
      refine V.ishl d_Mo_rest_36 ?_
      refine V.iconst (x := 1) d_Mo_rest_37 (by decide) ?_
      refine V.isub d_Mo_rest_38 ?_
      refine V.iand d_Mo_rest_39 ?_
      refine V.if_eq (t := 47) d_Mo_rest_40 ⟨rfl, rfl⟩ (fun hc => ?_) (fun hc => ?_)
      · replace hq := ifp hc hq
        refine V.iconst (x := 0) d_Mo_rest_47 (by decide) ?_
        refine V.callV d_Mo_rest_48 (cV_call (t := [_]) (rs := []) rfl (Or.inl rfl) rfl (lk1 g1) ⟨leb rfl, leb rfl⟩) hq (fun h4 hq => ?_)
        exact hq
      · replace hq := ifn hc hq
        refine V.iconst (x := 1) d_Mo_rest_43 (by decide) ?_
        refine V.goto (t := 48) d_Mo_rest_44 ⟨rfl, rfl⟩ ?_
        refine V.callV d_Mo_rest_48 (cV_call (t := [_]) (rs := []) rfl (Or.inl rfl) rfl (lk1 g1) ⟨leb rfl, leb rfl⟩) hq (fun h6 hq => ?_)
        exact hq
    · replace hq := ifn hc hq
      exact hq
  · replace hq := ifn hc hq
    exact hq
theorem w_Mo_rest_51 {d : Nat} {K : Hp → Prop} {x0 : Nat} {h0 : Hp} (hq :
  ((hS h0 x0).1 = 8 ∧ (if (hI h0 x0 41) = 0 then (∀ h9 : Hp, h9 = sI h0 x0 43 (8 : Int32) → K h9) else K h0))) : Wp (d + 1) m_Mo_rest 51 [some (.ref x0)] [] h0 (QV K) := by
  refine V.aload_n d_Mo_rest_51 rfl ?_
  obtain ⟨g8, hq⟩ := hq
  refine V.get0 d_Mo_rest_52 rfl (List.mem_singleton.mpr g8) ?_
  refine V.if_ne (t := 64) d_Mo_rest_55 ⟨rfl, rfl⟩ (fun hc => ?_) (fun hc => ?_)
  · replace hq := ifp hc hq
    refine V.aload_n d_Mo_rest_58 rfl ?_
    refine V.bipush (x := 8) d_Mo_rest_59 (by decide) ?_
    refine V.put0 d_Mo_rest_61 rfl (Or.inl rfl) (List.mem_singleton.mpr g8) ?_
    replace hq := hq _ rfl
    refine V.vret d_Mo_rest_64 rfl ?_
    exact V.rV hq
  · replace hq := ifn hc hq
    refine V.vret d_Mo_rest_64 rfl ?_
    exact V.rV hq
theorem w_Mo_nameAround {d : Nat} {K : Int32 → Hp → Prop} {x0 : Nat} {x1 : Int32} {h0 : Hp} (hq :
  Wp d m_Mo_nameAround 2 [some (.ref x0), some (.int x1), some (.int x1)] [] h0 (QI K)) : Ca d m_Mo_nameAround [.ref x0, .int x1] h0 (QI K) := by
  show Wp _ _ 0 [some (.ref x0), some (.int x1), none] [] h0 _
  refine V.iload_n d_Mo_nameAround_0 rfl ?_
  refine V.istore_n (l' := [_, _, _]) d_Mo_nameAround_1 rfl (ltb rfl) ?_
  exact hq
theorem w_Mo_nameAround_2 {d : Nat} {K : Int32 → Hp → Prop} {x0 : Nat} {y1 : Option Value} {x2 : Int32} {h0 : Hp} (hq :
  (if x2 < 0 then (if x2 < 0 then K (-1 : Int32) h0 else ((hS h0 x0).1 = 8 ∧ ((hS h0 (hR h0 x0 17)).1 = 20 ∧ (ainr x2 (hS h0 (hR h0 x0 17)).2 = true ∧ K (hI h0 (hR h0 x0 17) x2.toNatClampNeg) h0)))) else ((hS h0 x0).1 = 8 ∧ ((hS h0 (hR h0 x0 17)).1 = 20 ∧ (ainr x2 (hS h0 (hR h0 x0 17)).2 = true ∧ (if (hI h0 (hR h0 x0 17) x2.toNatClampNeg) < 0 then ((hS h0 (hR h0 x0 19)).1 = 20 ∧ (ainr x2 (hS h0 (hR h0 x0 19)).2 = true ∧ (∀ v9 : Int32, v9 = (hI h0 (hR h0 x0 19) x2.toNatClampNeg) → Wp d m_Mo_nameAround 2 [some (.ref x0), (yk y1), some (.int v9)] [] h0 (QI K)))) else (if x2 < 0 then K (-1 : Int32) h0 else K (hI h0 (hR h0 x0 17) x2.toNatClampNeg) h0))))))) : Wp d m_Mo_nameAround 2 [some (.ref x0), y1, some (.int x2)] [] h0 (QI K) := by
  refine V.iload_n d_Mo_nameAround_2 rfl ?_
  refine V.if_lt (t := 25) d_Mo_nameAround_3 ⟨rfl, rfl⟩ (fun hc => ?_) (fun hc => ?_)
  · replace hq := ifp hc hq
    refine V.iload_n d_Mo_nameAround_25 rfl ?_
    refine V.if_ge (t := 33) d_Mo_nameAround_26 ⟨rfl, rfl⟩ (fun hc => ?_) (fun hc => ?_)
    · replace hq := ifp hc hq
      refine V.iconst (x := -1) d_Mo_nameAround_29 (by decide) ?_
      refine V.goto (t := 39) d_Mo_nameAround_30 ⟨rfl, rfl⟩ ?_
      refine V.iret d_Mo_nameAround_39 rfl ?_
      exact V.rI hq
    · replace hq := ifn hc hq
      refine V.aload_n d_Mo_nameAround_33 rfl ?_
      obtain ⟨g1, hq⟩ := hq
      refine V.get2 d_Mo_nameAround_34 rfl (List.mem_singleton.mpr g1) ?_
      refine V.iload_n d_Mo_nameAround_37 rfl ?_
      obtain ⟨g2, hq⟩ := hq
      obtain ⟨g3, hq⟩ := hq
      refine V.iaload d_Mo_nameAround_38 g2 g3 ?_
      refine V.iret d_Mo_nameAround_39 rfl ?_
      exact V.rI hq
  · replace hq := ifn hc hq
    refine V.aload_n d_Mo_nameAround_6 rfl ?_
    obtain ⟨g4, hq⟩ := hq
    refine V.get2 d_Mo_nameAround_7 rfl (List.mem_singleton.mpr g4) ?_
    refine V.iload_n d_Mo_nameAround_10 rfl ?_
    obtain ⟨g5, hq⟩ := hq
    obtain ⟨g6, hq⟩ := hq
    refine V.iaload d_Mo_nameAround_11 g5 g6 ?_
    refine V.if_ge (t := 25) d_Mo_nameAround_12 ⟨rfl, rfl⟩ (fun hc => ?_) (fun hc => ?_)
    · replace hq := ifp hc hq
      refine V.aload_n d_Mo_nameAround_15 rfl ?_
      refine V.get2 d_Mo_nameAround_16 rfl (List.mem_singleton.mpr g4) ?_
      refine V.iload_n d_Mo_nameAround_19 rfl ?_
      obtain ⟨g7, hq⟩ := hq
      obtain ⟨g8, hq⟩ := hq
      refine V.iaload d_Mo_nameAround_20 g7 g8 ?_
      replace hq := hq _ rfl
      refine V.istore_n (l' := [_, _, _]) d_Mo_nameAround_21 ((st1_alt (ltb rfl)).trans rfl) (ltb rfl) ?_
      refine V.goto (t := 2) d_Mo_nameAround_22 ⟨rfl, rfl⟩ ?_
      exact hq
    · replace hq := ifn hc hq
      refine V.iload_n d_Mo_nameAround_25 rfl ?_
      refine V.if_ge (t := 33) d_Mo_nameAround_26 ⟨rfl, rfl⟩ (fun hc => ?_) (fun hc => ?_)
      · replace hq := ifp hc hq
        refine V.iconst (x := -1) d_Mo_nameAround_29 (by decide) ?_
        refine V.goto (t := 39) d_Mo_nameAround_30 ⟨rfl, rfl⟩ ?_
        refine V.iret d_Mo_nameAround_39 rfl ?_
        exact V.rI hq
      · replace hq := ifn hc hq
        refine V.aload_n d_Mo_nameAround_33 rfl ?_
        refine V.get2 d_Mo_nameAround_34 rfl (List.mem_singleton.mpr g4) ?_
        refine V.iload_n d_Mo_nameAround_37 rfl ?_
        refine V.iaload d_Mo_nameAround_38 g5 g6 ?_
        refine V.iret d_Mo_nameAround_39 rfl ?_
        exact V.rI hq
theorem w_Mo_readBits {d : Nat} {K : Int64 → Hp → Prop} {x0 : Nat} {x1 : Int32} {h0 : Hp} (hq :
  Wp (d + 1) m_Mo_readBits 5 [some (.ref x0), some (.int x1), some (.long (0 : Int64)), none, some (.int (0 : Int32)), none] [] h0 (QL K)) : Ca (d + 1) m_Mo_readBits [.ref x0, .int x1] h0 (QL K) := by
  show Wp _ _ 0 [some (.ref x0), some (.int x1), none, none, none, none] [] h0 _
  refine V.lconst (x := 0) d_Mo_readBits_0 (by decide) ?_
  refine V.lstore_n (l' := [_, _, _, _, _, _]) d_Mo_readBits_1 rfl (ltb rfl) ?_
  refine V.iconst (x := 0) d_Mo_readBits_2 (by decide) ?_
  refine V.istore (l' := [_, _, _, _, _, _]) d_Mo_readBits_3 rfl (ltb rfl) ?_
  exact hq
theorem w_Mo_readBits_5 {d : Nat} {K : Int64 → Hp → Prop} {x0 : Nat} {x1 : Int32} {x2 : Int64} {x4 : Int32} {y5 : Option Value} {h0 : Hp} (hq :
  (if x4 < x1 then ((hS h0 x0).1 = 8 ∧ (if (hI h0 x0 41) = 0 then (if (hI h0 x0 43) = (8 : Int32) then Ca d m_Mo_nextByte [.ref x0] h0 (QI (fun v2 h3 => ((hS h3 x0).1 = 8 ∧ (if (hI h3 x0 41) = 0 then (∀ h6 : Hp, h6 = sI h3 x0 43 (0 : Int32) → Wp (d + 1) m_Mo_readBits 45 [some (.ref x0), some (.int x1), some (.long x2), none, some (.int x4), some (.int v2)] [] h6 (QL K)) else Wp (d + 1) m_Mo_readBits 45 [some (.ref x0), some (.int x1), some (.long x2), none, some (.int x4), some (.int v2)] [] h3 (QL K))))) else Wp (d + 1) m_Mo_readBits 45 [some (.ref x0), some (.int x1), some (.long x2), none, some (.int x4), y5] [] h0 (QL K)) else K x2 h0)) else K x2 h0)) : Wp (d + 1) m_Mo_readBits 5 [some (.ref x0), some (.int x1), some (.long x2), none, some (.int x4), y5] [] h0 (QL K) := by
  refine V.iload d_Mo_readBits_5 rfl ?_
  refine V.iload_n d_Mo_readBits_7 rfl ?_
  refine V.ic_ge (t := 97) d_Mo_readBits_8 ⟨rfl, rfl⟩ (fun hc => ?_) (fun hc => ?_)
  · replace hq := ifp hc hq
    refine V.aload_n d_Mo_readBits_11 rfl ?_
    obtain ⟨g1, hq⟩ := hq
    refine V.get0 d_Mo_readBits_12 rfl (List.mem_singleton.mpr g1) ?_
    refine V.if_ne (t := 97) d_Mo_readBits_15 ⟨rfl, rfl⟩ (fun hc => ?_) (fun hc => ?_)
    · replace hq := ifp hc hq
      refine V.aload_n d_Mo_readBits_18 rfl ?_
      refine V.get0 d_Mo_readBits_19 rfl (List.mem_singleton.mpr g1) ?_
      refine V.bipush (x := 8) d_Mo_readBits_22 (by decide) ?_
      refine V.ic_ne (t := 45) d_Mo_readBits_24 ⟨rfl, rfl⟩ (fun hc => ?_) (fun hc => ?_)
      · replace hq := ifp hc hq
        refine V.aload_n d_Mo_readBits_27 rfl ?_
        refine V.callI d_Mo_readBits_28 (cV_call (t := []) (rs := []) rfl (Or.inl rfl) rfl (lk1 g1) ⟨leb rfl, leb rfl⟩) hq (fun v2 h3 hq => ?_)
        refine V.istore (l' := [_, _, _, _, _, _]) d_Mo_readBits_31 rfl (ltb rfl) ?_
        refine V.aload_n d_Mo_readBits_33 rfl ?_
        obtain ⟨g5, hq⟩ := hq
        refine V.get0 d_Mo_readBits_34 rfl (List.mem_singleton.mpr g5) ?_
        refine V.if_ne (t := 45) d_Mo_readBits_37 ⟨rfl, rfl⟩ (fun hc => ?_) (fun hc => ?_)
        · replace hq := ifp hc hq
          refine V.aload_n d_Mo_readBits_40 rfl ?_
          refine V.iconst (x := 0) d_Mo_readBits_41 (by decide) ?_
          refine V.put0 d_Mo_readBits_42 rfl (Or.inl rfl) (List.mem_singleton.mpr g5) ?_
          replace hq := hq _ rfl
          exact hq
        · replace hq := ifn hc hq
          exact hq
      · replace hq := ifn hc hq
        exact hq
    · replace hq := ifn hc hq
      refine V.lload_n d_Mo_readBits_97 rfl ?_
      refine V.lret d_Mo_readBits_98 rfl ?_
      exact V.rL hq
  · replace hq := ifn hc hq
    refine V.lload_n d_Mo_readBits_97 rfl ?_
    refine V.lret d_Mo_readBits_98 rfl ?_
    exact V.rL hq
theorem w_Mo_readBits_45 {d : Nat} {K : Int64 → Hp → Prop} {x0 : Nat} {x1 : Int32} {x2 : Int64} {x4 : Int32} {y5 : Option Value} {h0 : Hp} (hq :
  ((hS h0 x0).1 = 8 ∧ (if 0 < (hI h0 x0 41) then K (0 : Int64) h0 else ((hS h0 (hR h0 x0 6)).1 = 20 ∧ (ainr ((hI h0 x0 42) - (1 : Int32)) (hS h0 (hR h0 x0 6)).2 = true ∧ (∀ v10 : Int64, v10 = ((x2 <<< ((1 : Int32).toInt64 &&& 63)) ||| ((((hI h0 (hR h0 x0 6) ((hI h0 x0 42) - (1 : Int32)).toNatClampNeg) >>> (((7 : Int32) - (hI h0 x0 43)) &&& 31)) &&& (1 : Int32)).toInt64)) → (∀ h11 : Hp, h11 = sI h0 x0 43 ((hI h0 x0 43) + (1 : Int32)) → (∀ v12 : Int32, v12 = (x4 + 1) → Wp (d + 1) m_Mo_readBits 5 [some (.ref x0), some (.int x1), some (.long v10), none, some (.int v12), y5] [] h11 (QL K))))))))) : Wp (d + 1) m_Mo_readBits 45 [some (.ref x0), some (.int x1), some (.long x2), none, some (.int x4), y5] [] h0 (QL K) := by
  refine V.aload_n d_Mo_readBits_45 rfl ?_
  obtain ⟨g7, hq⟩ := hq
  refine V.get0 d_Mo_readBits_46 rfl (List.mem_singleton.mpr g7) ?_
  refine V.if_le (t := 54) d_Mo_readBits_49 ⟨rfl, rfl⟩ (fun hc => ?_) (fun hc => ?_)
  · replace hq := ifp hc hq
    refine V.lconst (x := 0) d_Mo_readBits_52 (by decide) ?_
    refine V.lret d_Mo_readBits_53 rfl ?_
    exact V.rL hq
  · replace hq := ifn hc hq
    refine V.lload_n d_Mo_readBits_54 rfl ?_
    refine V.iconst (x := 1) d_Mo_readBits_55 (by decide) ?_
    refine V.lshl d_Mo_readBits_56 ?_
    refine V.aload_n d_Mo_readBits_57 rfl ?_
    refine V.get2 d_Mo_readBits_58 rfl (List.mem_singleton.mpr g7) ?_
    refine V.aload_n d_Mo_readBits_61 rfl ?_
    refine V.get0 d_Mo_readBits_62 rfl (List.mem_singleton.mpr g7) ?_
    refine V.iconst (x := 1) d_Mo_readBits_65 (by decide) ?_
    refine V.isub d_Mo_readBits_66 ?_
    obtain ⟨g8, hq⟩ := hq
    obtain ⟨g9, hq⟩ := hq
    refine V.iaload d_Mo_readBits_67 g8 g9 ?_
    refine V.bipush (x := 7) d_Mo_readBits_68 (by decide) ?_
    refine V.aload_n d_Mo_readBits_70 rfl ?_
    refine V.get0 d_Mo_readBits_71 rfl (List.mem_singleton.mpr g7) ?_
    refine V.isub d_Mo_readBits_74 ?_
    refine V.ishr d_Mo_readBits_75 ?_
    refine V.iconst (x := 1) d_Mo_readBits_76 (by decide) ?_
    refine V.iand d_Mo_readBits_77 ?_
    refine V.i2l d_Mo_readBits_78 ?_
    refine V.lor d_Mo_readBits_79 ?_
    replace hq := hq _ rfl
    refine V.lstore_n (l' := [_, _, _, _, _, _]) d_Mo_readBits_80 rfl (ltb rfl) ?_
    refine V.aload_n d_Mo_readBits_81 rfl ?_
    refine V.dupR d_Mo_readBits_82 ?_
    refine V.get0 d_Mo_readBits_83 rfl (List.mem_singleton.mpr g7) ?_
    refine V.iconst (x := 1) d_Mo_readBits_86 (by decide) ?_
    refine V.iadd d_Mo_readBits_87 ?_
    refine V.put0 d_Mo_readBits_88 rfl (Or.inl rfl) (List.mem_singleton.mpr g7) ?_
    replace hq := hq _ rfl
    replace hq := hq _ rfl
    refine V.iinc (l' := [_, _, _, _, _, _]) d_Mo_readBits_91 rfl (show _ + _ = _ + (1 : Int32) from rfl) rfl ?_
    refine V.goto (t := 5) d_Mo_readBits_94 ⟨rfl, rfl⟩ ?_
    exact hq
theorem w_Mo_writeBits {d : Nat} {K : Hp → Prop} {x0 : Nat} {x1 : Int64} {x3 : Int32} {h0 : Hp} (hq :
  (∀ v1 : Int32, v1 = (x3 - (1 : Int32)) → Wp (d + 1) m_Mo_writeBits 5 [some (.ref x0), some (.long x1), none, some (.int x3), some (.int v1)] [] h0 (QV K))) : Ca (d + 1) m_Mo_writeBits [.ref x0, .long x1, .int x3] h0 (QV K) := by
  show Wp _ _ 0 [some (.ref x0), some (.long x1), none, some (.int x3), none] [] h0 _
  refine V.iload_n d_Mo_writeBits_0 rfl ?_
  refine V.iconst (x := 1) d_Mo_writeBits_1 (by decide) ?_
  refine V.isub d_Mo_writeBits_2 ?_
  replace hq := hq _ rfl
  refine V.istore (l' := [_, _, _, _, _]) d_Mo_writeBits_3 rfl (ltb rfl) ?_
  exact hq
theorem w_Mo_writeBits_5 {d : Nat} {K : Hp → Prop} {x0 : Nat} {x1 : Int64} {y3 : Option Value} {x4 : Int32} {h0 : Hp} (hq :
  (if x4 < 0 then K h0 else ((hS h0 x0).1 = 8 ∧ (if (hI h0 x0 41) = 0 then (if (hI h0 x0 43) = (8 : Int32) then Ca d m_Mo_putByte [.ref x0, .int (0 : Int32)] h0 (QV (fun h3 => ((hS h3 x0).1 = 8 ∧ (if (hI h3 x0 41) = 0 then (∀ h6 : Hp, h6 = sI h3 x0 43 (0 : Int32) → Wp (d + 1) m_Mo_writeBits 43 [some (.ref x0), some (.long x1), none, y3, some (.int x4)] [] h6 (QV K)) else Wp (d + 1) m_Mo_writeBits 43 [some (.ref x0), some (.long x1), none, y3, some (.int x4)] [] h3 (QV K))))) else Wp (d + 1) m_Mo_writeBits 43 [some (.ref x0), some (.long x1), none, y3, some (.int x4)] [] h0 (QV K)) else K h0)))) : Wp (d + 1) m_Mo_writeBits 5 [some (.ref x0), some (.long x1), none, y3, some (.int x4)] [] h0 (QV K) := by
  refine V.iload d_Mo_writeBits_5 rfl ?_
  refine V.if_lt (t := 96) d_Mo_writeBits_7 ⟨rfl, rfl⟩ (fun hc => ?_) (fun hc => ?_)
  · replace hq := ifp hc hq
    refine V.vret d_Mo_writeBits_96 rfl ?_
    exact V.rV hq
  · replace hq := ifn hc hq
    refine V.aload_n d_Mo_writeBits_10 rfl ?_
    obtain ⟨g2, hq⟩ := hq
    refine V.get0 d_Mo_writeBits_11 rfl (List.mem_singleton.mpr g2) ?_
    refine V.if_ne (t := 96) d_Mo_writeBits_14 ⟨rfl, rfl⟩ (fun hc => ?_) (fun hc => ?_)
    · replace hq := ifp hc hq
      refine V.aload_n d_Mo_writeBits_17 rfl ?_
      refine V.get0 d_Mo_writeBits_18 rfl (List.mem_singleton.mpr g2) ?_
      refine V.bipush (x := 8) d_Mo_writeBits_21 (by decide) ?_
      refine V.ic_ne (t := 43) d_Mo_writeBits_23 ⟨rfl, rfl⟩ (fun hc => ?_) (fun hc => ?_)
      · replace hq := ifp hc hq
        refine V.aload_n d_Mo_writeBits_26 rfl ?_
        refine V.iconst (x := 0) d_Mo_writeBits_27 (by decide) ?_
        refine V.callV d_Mo_writeBits_28 (cV_call (t := [_]) (rs := []) rfl (Or.inl rfl) rfl (lk1 g2) ⟨leb rfl, leb rfl⟩) hq (fun h3 hq => ?_)
        refine V.aload_n d_Mo_writeBits_31 rfl ?_
        obtain ⟨g5, hq⟩ := hq
        refine V.get0 d_Mo_writeBits_32 rfl (List.mem_singleton.mpr g5) ?_
        refine V.if_ne (t := 43) d_Mo_writeBits_35 ⟨rfl, rfl⟩ (fun hc => ?_) (fun hc => ?_)
        · replace hq := ifp hc hq
          refine V.aload_n d_Mo_writeBits_38 rfl ?_
          refine V.iconst (x := 0) d_Mo_writeBits_39 (by decide) ?_
          refine V.put0 d_Mo_writeBits_40 rfl (Or.inl rfl) (List.mem_singleton.mpr g5) ?_
          replace hq := hq _ rfl
          exact hq
        · replace hq := ifn hc hq
          exact hq
      · replace hq := ifn hc hq
        exact hq
    · replace hq := ifn hc hq
      refine V.vret d_Mo_writeBits_96 rfl ?_
      exact V.rV hq
theorem w_Mo_writeBits_43 {d : Nat} {K : Hp → Prop} {x0 : Nat} {x1 : Int64} {y3 : Option Value} {x4 : Int32} {h0 : Hp} (hq :
  ((hS h0 x0).1 = 8 ∧ (if 0 < (hI h0 x0 41) then K h0 else ((hS h0 (hR h0 x0 44)).1 = 20 ∧ (ainr ((hI h0 x0 42) - (1 : Int32)) (hS h0 (hR h0 x0 44)).2 = true ∧ (¬ (hR h0 x0 44) = 1 ∧ (∀ h11 : Hp, h11 = sI h0 (hR h0 x0 44) ((hI h0 x0 42) - (1 : Int32)).toNatClampNeg ((hI h0 (hR h0 x0 44) ((hI h0 x0 42) - (1 : Int32)).toNatClampNeg) ||| ((((x1 >>> (x4.toInt64 &&& 63)) &&& (1 : Int64)).toInt32) <<< (((7 : Int32) - (hI h0 x0 43)) &&& 31))) → (∀ h12 : Hp, h12 = sI h11 x0 43 ((hI h11 x0 43) + (1 : Int32)) → (∀ v13 : Int32, v13 = (x4 + (-1)) → Wp (d + 1) m_Mo_writeBits 5 [some (.ref x0), some (.long x1), none, (yk y3), some (.int v13)] [] h12 (QV K)))))))))) : Wp (d + 1) m_Mo_writeBits 43 [some (.ref x0), some (.long x1), none, y3, some (.int x4)] [] h0 (QV K) := by
  refine V.aload_n d_Mo_writeBits_43 rfl ?_
  obtain ⟨g7, hq⟩ := hq
  refine V.get0 d_Mo_writeBits_44 rfl (List.mem_singleton.mpr g7) ?_
  refine V.if_le (t := 51) d_Mo_writeBits_47 ⟨rfl, rfl⟩ (fun hc => ?_) (fun hc => ?_)
  · replace hq := ifp hc hq
    refine V.vret d_Mo_writeBits_50 rfl ?_
    exact V.rV hq
  · replace hq := ifn hc hq
    refine V.aload_n d_Mo_writeBits_51 rfl ?_
    refine V.get2 d_Mo_writeBits_52 rfl (List.mem_singleton.mpr g7) ?_
    refine V.aload_n d_Mo_writeBits_55 rfl ?_
    refine V.get0 d_Mo_writeBits_56 rfl (List.mem_singleton.mpr g7) ?_
    refine V.iconst (x := 1) d_Mo_writeBits_59 (by decide) ?_
    refine V.isub d_Mo_writeBits_60 ?_
    refine V.dup2 d_Mo_writeBits_61 ?_
    obtain ⟨g8, hq⟩ := hq
    obtain ⟨g9, hq⟩ := hq
    refine V.iaload d_Mo_writeBits_62 g8 g9 ?_
    refine V.lload_n d_Mo_writeBits_63 rfl ?_
    refine V.iload d_Mo_writeBits_64 rfl ?_
    refine V.lshr d_Mo_writeBits_66 ?_
    refine V.lconst (x := 1) d_Mo_writeBits_67 (by decide) ?_
    refine V.land d_Mo_writeBits_68 ?_
    refine V.l2i d_Mo_writeBits_69 ?_
    refine V.bipush (x := 7) d_Mo_writeBits_70 (by decide) ?_
    refine V.aload_n d_Mo_writeBits_72 rfl ?_
    refine V.get0 d_Mo_writeBits_73 rfl (List.mem_singleton.mpr g7) ?_
    refine V.isub d_Mo_writeBits_76 ?_
    refine V.ishl d_Mo_writeBits_77 ?_
    refine V.ior d_Mo_writeBits_78 ?_
    obtain ⟨g10, hq⟩ := hq
    refine V.iastore d_Mo_writeBits_79 g8 g10 g9 ?_
    replace hq := hq _ rfl
    refine V.aload_n d_Mo_writeBits_80 rfl ?_
    refine V.dupR d_Mo_writeBits_81 ?_
    refine V.get0 d_Mo_writeBits_82 rfl (List.mem_singleton.mpr g7) ?_
    refine V.iconst (x := 1) d_Mo_writeBits_85 (by decide) ?_
    refine V.iadd d_Mo_writeBits_86 ?_
    refine V.put0 d_Mo_writeBits_87 rfl (Or.inl rfl) (List.mem_singleton.mpr g7) ?_
    replace hq := hq _ rfl
    replace hq := hq _ rfl
    refine V.iinc (l' := [_, _, _, _, _]) d_Mo_writeBits_90 rfl (show _ + _ = _ + (-1 : Int32) from rfl) ((st1_alt (ltb rfl)).trans rfl) ?_
    refine V.goto (t := 5) d_Mo_writeBits_93 ⟨rfl, rfl⟩ ?_
    exact hq
theorem w_Mo_readNumber {d : Nat} {K : Int64 → Hp → Prop} {x0 : Nat} {x1 : Int32} {h0 : Hp} (hq :
  ((hS h0 x0).1 = 8 ∧ ((hS h0 (hR h0 x0 13)).1 = 20 ∧ (ainr x1 (hS h0 (hR h0 x0 13)).2 = true ∧ (∀ v4 : Int32, v4 = (hI h0 (hR h0 x0 13) x1.toNatClampNeg) → Wp (d + 1) m_Mo_readNumber 13 [some (.ref x0), some (.int x1), some (.long (0 : Int64)), none, some (.int v4), some (.int (0 : Int32)), none, none] [] h0 (QL K)))))) : Ca (d + 1) m_Mo_readNumber [.ref x0, .int x1] h0 (QL K) := by
  show Wp _ _ 0 [some (.ref x0), some (.int x1), none, none, none, none, none, none] [] h0 _
  refine V.lconst (x := 0) d_Mo_readNumber_0 (by decide) ?_
  refine V.lstore_n (l' := [_, _, _, _, _, _, _, _]) d_Mo_readNumber_1 rfl (ltb rfl) ?_
  refine V.aload_n d_Mo_readNumber_2 rfl ?_
  obtain ⟨g1, hq⟩ := hq
  refine V.get2 d_Mo_readNumber_3 rfl (List.mem_singleton.mpr g1) ?_
  refine V.iload_n d_Mo_readNumber_6 rfl ?_
  obtain ⟨g2, hq⟩ := hq
  obtain ⟨g3, hq⟩ := hq
  refine V.iaload d_Mo_readNumber_7 g2 g3 ?_
  replace hq := hq _ rfl
  refine V.istore (l' := [_, _, _, _, _, _, _, _]) d_Mo_readNumber_8 rfl (ltb rfl) ?_
  refine V.iconst (x := 0) d_Mo_readNumber_10 (by decide) ?_
  refine V.istore (l' := [_, _, _, _, _, _, _, _]) d_Mo_readNumber_11 rfl (ltb rfl) ?_
  exact hq
theorem w_Mo_readNumber_13 {d : Nat} {K : Int64 → Hp → Prop} {x0 : Nat} {x1 : Int32} {x2 : Int64} {x4 : Int32} {x5 : Int32} {y6 : Option Value} {y7 : Option Value} {h0 : Hp} (hq :
  (if x5 < x4 then ((hS h0 x0).1 = 8 ∧ Ca d m_Mo_nextByte [.ref x0] h0 (QI (fun v6 h7 => (∀ v9 : Int64, v9 = (v6.toInt64) → ((hS h7 x0).1 = 8 ∧ ((hS h7 (hR h7 x0 12)).1 = 20 ∧ (ainr x1 (hS h7 (hR h7 x0 12)).2 = true ∧ (if (hI h7 (hR h7 x0 12) x1.toNatClampNeg) = (118 : Int32) then (∀ v13 : Int64, v13 = (x2 ||| (v9 <<< (((8 : Int32) * x5).toInt64 &&& 63))) → (∀ v14 : Int32, v14 = (x5 + 1) → Wp (d + 1) m_Mo_readNumber 13 [some (.ref x0), some (.int x1), some (.long v13), none, some (.int x4), some (.int v14), some (.long v9), none] [] h7 (QL K))) else (∀ v15 : Int64, v15 = ((x2 <<< ((8 : Int32).toInt64 &&& 63)) ||| v9) → (∀ v16 : Int32, v16 = (x5 + 1) → Wp (d + 1) m_Mo_readNumber 13 [some (.ref x0), some (.int x1), some (.long v15), none, some (.int x4), some (.int v16), some (.long v9), none] [] h7 (QL K))))))))))) else ((hS h0 x0).1 = 8 ∧ ((hS h0 (hR h0 x0 12)).1 = 20 ∧ (ainr x1 (hS h0 (hR h0 x0 12)).2 = true ∧ (if (hI h0 (hR h0 x0 12) x1.toNatClampNeg) = (115 : Int32) then (if ((x2 >>> ((((8 : Int32) * x4) - (1 : Int32)).toInt64 &&& 63)) &&& (1 : Int64)) = (1 : Int64) then (∀ v20 : Int64, v20 = (x2 - ((1 : Int64) <<< (((8 : Int32) * x4).toInt64 &&& 63))) → K v20 h0) else K x2 h0) else K x2 h0)))))) : Wp (d + 1) m_Mo_readNumber 13 [some (.ref x0), some (.int x1), some (.long x2), none, some (.int x4), some (.int x5), y6, y7] [] h0 (QL K) := by
  refine V.iload d_Mo_readNumber_13 rfl ?_
  refine V.iload d_Mo_readNumber_15 rfl ?_
  refine V.ic_ge (t := 65) d_Mo_readNumber_17 ⟨rfl, rfl⟩ (fun hc => ?_) (fun hc => ?_)
  · replace hq := ifp hc hq
    refine V.aload_n d_Mo_readNumber_20 rfl ?_
    obtain ⟨g5, hq⟩ := hq
    refine V.callI d_Mo_readNumber_21 (cV_call (t := []) (rs := []) rfl (Or.inl rfl) rfl (lk1 g5) ⟨leb rfl, leb rfl⟩) hq (fun v6 h7 hq => ?_)
    refine V.i2l d_Mo_readNumber_24 ?_
    replace hq := hq _ rfl
    refine V.lstore (l' := [_, _, _, _, _, _, _, _]) d_Mo_readNumber_25 rfl (ltb rfl) ?_
    refine V.aload_n d_Mo_readNumber_27 rfl ?_
    obtain ⟨g10, hq⟩ := hq
    refine V.get2 d_Mo_readNumber_28 rfl (List.mem_singleton.mpr g10) ?_
    refine V.iload_n d_Mo_readNumber_31 rfl ?_
    obtain ⟨g11, hq⟩ := hq
    obtain ⟨g12, hq⟩ := hq
    refine V.iaload d_Mo_readNumber_32 g11 g12 ?_
    refine V.bipush (x := 118) d_Mo_readNumber_33 (by decide) ?_
    refine V.ic_ne (t := 51) d_Mo_readNumber_35 ⟨rfl, rfl⟩ (fun hc => ?_) (fun hc => ?_)
    · replace hq := ifp hc hq
      refine V.lload_n d_Mo_readNumber_38 rfl ?_
      refine V.lload d_Mo_readNumber_39 rfl ?_
      refine V.bipush (x := 8) d_Mo_readNumber_41 (by decide) ?_
      refine V.iload d_Mo_readNumber_43 rfl ?_
      refine V.imul d_Mo_readNumber_45 ?_
      refine V.lshl d_Mo_readNumber_46 ?_
      refine V.lor d_Mo_readNumber_47 ?_
      refine V.goto (t := 58) d_Mo_readNumber_48 ⟨rfl, rfl⟩ ?_
      replace hq := hq _ rfl
      refine V.lstore_n (l' := [_, _, _, _, _, _, _, _]) d_Mo_readNumber_58 rfl (ltb rfl) ?_
      replace hq := hq _ rfl
      refine V.iinc (l' := [_, _, _, _, _, _, _, _]) d_Mo_readNumber_59 rfl (show _ + _ = _ + (1 : Int32) from rfl) rfl ?_
      refine V.goto (t := 13) d_Mo_readNumber_62 ⟨rfl, rfl⟩ ?_
      exact hq
    · replace hq := ifn hc hq
      refine V.lload_n d_Mo_readNumber_51 rfl ?_
      refine V.bipush (x := 8) d_Mo_readNumber_52 (by decide) ?_
      refine V.lshl d_Mo_readNumber_54 ?_
      refine V.lload d_Mo_readNumber_55 rfl ?_
      refine V.lor d_Mo_readNumber_57 ?_
      replace hq := hq _ rfl
      refine V.lstore_n (l' := [_, _, _, _, _, _, _, _]) d_Mo_readNumber_58 rfl (ltb rfl) ?_
      replace hq := hq _ rfl
      refine V.iinc (l' := [_, _, _, _, _, _, _, _]) d_Mo_readNumber_59 rfl (show _ + _ = _ + (1 : Int32) from rfl) rfl ?_
      refine V.goto (t := 13) d_Mo_readNumber_62 ⟨rfl, rfl⟩ ?_
      exact hq
  · replace hq := ifn hc hq
    refine V.aload_n d_Mo_readNumber_65 rfl ?_
    obtain ⟨g17, hq⟩ := hq
    refine V.get2 d_Mo_readNumber_66 rfl (List.mem_singleton.mpr g17) ?_
    refine V.iload_n d_Mo_readNumber_69 rfl ?_
    obtain ⟨g18, hq⟩ := hq
    obtain ⟨g19, hq⟩ := hq
    refine V.iaload d_Mo_readNumber_70 g18 g19 ?_
    refine V.bipush (x := 115) d_Mo_readNumber_71 (by decide) ?_
    refine V.ic_ne (t := 102) d_Mo_readNumber_73 ⟨rfl, rfl⟩ (fun hc => ?_) (fun hc => ?_)
    · replace hq := ifp hc hq
      refine V.lload_n d_Mo_readNumber_76 rfl ?_
      refine V.bipush (x := 8) d_Mo_readNumber_77 (by decide) ?_
      refine V.iload d_Mo_readNumber_79 rfl ?_
      refine V.imul d_Mo_readNumber_81 ?_
      refine V.iconst (x := 1) d_Mo_readNumber_82 (by decide) ?_
      refine V.isub d_Mo_readNumber_83 ?_
      refine V.lshr d_Mo_readNumber_84 ?_
      refine V.lconst (x := 1) d_Mo_readNumber_85 (by decide) ?_
      refine V.land d_Mo_readNumber_86 ?_
      refine V.lconst (x := 1) d_Mo_readNumber_87 (by decide) ?_
      refine V.lc_ne d_Mo_readNumber_88 d_Mo_readNumber_89 ⟨rfl, rfl⟩ (fun hc => ?_) (fun hc => ?_)
      · replace hq := ifp hc hq
        refine V.lload_n d_Mo_readNumber_92 rfl ?_
        refine V.lconst (x := 1) d_Mo_readNumber_93 (by decide) ?_
        refine V.bipush (x := 8) d_Mo_readNumber_94 (by decide) ?_
        refine V.iload d_Mo_readNumber_96 rfl ?_
        refine V.imul d_Mo_readNumber_98 ?_
        refine V.lshl d_Mo_readNumber_99 ?_
        refine V.lsub d_Mo_readNumber_100 ?_
        replace hq := hq _ rfl
        refine V.lstore_n (l' := [_, _, _, _, _, _, _, _]) d_Mo_readNumber_101 rfl (ltb rfl) ?_
        refine V.lload_n d_Mo_readNumber_102 rfl ?_
        refine V.lret d_Mo_readNumber_103 rfl ?_
        exact V.rL hq
      · replace hq := ifn hc hq
        refine V.lload_n d_Mo_readNumber_102 rfl ?_
        refine V.lret d_Mo_readNumber_103 rfl ?_
        exact V.rL hq
    · replace hq := ifn hc hq
      refine V.lload_n d_Mo_readNumber_102 rfl ?_
      refine V.lret d_Mo_readNumber_103 rfl ?_
      exact V.rL hq
theorem w_Mo_writeNumber {d : Nat} {K : Hp → Prop} {x0 : Nat} {x1 : Int32} {x2 : Int64} {h0 : Hp} (hq :
  ((hS h0 x0).1 = 8 ∧ ((hS h0 (hR h0 x0 13)).1 = 20 ∧ (ainr x1 (hS h0 (hR h0 x0 13)).2 = true ∧ (∀ v4 : Int32, v4 = (hI h0 (hR h0 x0 13) x1.toNatClampNeg) → Wp (d + 1) m_Mo_writeNumber 11 [some (.ref x0), some (.int x1), some (.long x2), none, some (.int v4), some (.int (0 : Int32))] [] h0 (QV K)))))) : Ca (d + 1) m_Mo_writeNumber [.ref x0, .int x1, .long x2] h0 (QV K) := by
  show Wp _ _ 0 [some (.ref x0), some (.int x1), some (.long x2), none, none, none] [] h0 _
  refine V.aload_n d_Mo_writeNumber_0 rfl ?_
  obtain ⟨g1, hq⟩ := hq
  refine V.get2 d_Mo_writeNumber_1 rfl (List.mem_singleton.mpr g1) ?_
  refine V.iload_n d_Mo_writeNumber_4 rfl ?_
  obtain ⟨g2, hq⟩ := hq
  obtain ⟨g3, hq⟩ := hq
  refine V.iaload d_Mo_writeNumber_5 g2 g3 ?_
  replace hq := hq _ rfl
  refine V.istore (l' := [_, _, _, _, _, _]) d_Mo_writeNumber_6 rfl (ltb rfl) ?_
  refine V.iconst (x := 0) d_Mo_writeNumber_8 (by decide) ?_
  refine V.istore (l' := [_, _, _, _, _, _]) d_Mo_writeNumber_9 rfl (ltb rfl) ?_
  exact hq
theorem w_Mo_writeNumber_11 {d : Nat} {K : Hp → Prop} {x0 : Nat} {x1 : Int32} {x2 : Int64} {x4 : Int32} {x5 : Int32} {h0 : Hp} (hq :
  (if x5 < x4 then ((hS h0 x0).1 = 8 ∧ ((hS h0 (hR h0 x0 12)).1 = 20 ∧ (ainr x1 (hS h0 (hR h0 x0 12)).2 = true ∧ (if (hI h0 (hR h0 x0 12) x1.toNatClampNeg) = (118 : Int32) then Ca d m_Mo_putByte [.ref x0, .int ((x2 >>> (((8 : Int32) * x5).toInt64 &&& 63)).toInt32)] h0 (QV (fun h8 => (∀ v10 : Int32, v10 = (x5 + 1) → Wp (d + 1) m_Mo_writeNumber 11 [some (.ref x0), some (.int x1), some (.long x2), none, some (.int x4), some (.int v10)] [] h8 (QV K)))) else Ca d m_Mo_putByte [.ref x0, .int ((x2 >>> (((8 : Int32) * ((x4 - (1 : Int32)) - x5)).toInt64 &&& 63)).toInt32)] h0 (QV (fun h11 => (∀ v13 : Int32, v13 = (x5 + 1) → Wp (d + 1) m_Mo_writeNumber 11 [some (.ref x0), some (.int x1), some (.long x2), none, some (.int x4), some (.int v13)] [] h11 (QV K)))))))) else K h0)) : Wp (d + 1) m_Mo_writeNumber 11 [some (.ref x0), some (.int x1), some (.long x2), none, some (.int x4), some (.int x5)] [] h0 (QV K) := by
  refine V.iload d_Mo_writeNumber_11 rfl ?_
  refine V.iload d_Mo_writeNumber_13 rfl ?_
  refine V.ic_ge (t := 57) d_Mo_writeNumber_15 ⟨rfl, rfl⟩ (fun hc => ?_) (fun hc => ?_)
  · replace hq := ifp hc hq
    refine V.aload_n d_Mo_writeNumber_18 rfl ?_
    refine V.lload_n d_Mo_writeNumber_19 rfl ?_
    refine V.bipush (x := 8) d_Mo_writeNumber_20 (by decide) ?_
    refine V.aload_n d_Mo_writeNumber_22 rfl ?_
    obtain ⟨g5, hq⟩ := hq
    refine V.get2 d_Mo_writeNumber_23 rfl (List.mem_singleton.mpr g5) ?_
    refine V.iload_n d_Mo_writeNumber_26 rfl ?_
    obtain ⟨g6, hq⟩ := hq
    obtain ⟨g7, hq⟩ := hq
    refine V.iaload d_Mo_writeNumber_27 g6 g7 ?_
    refine V.bipush (x := 118) d_Mo_writeNumber_28 (by decide) ?_
    refine V.ic_ne (t := 38) d_Mo_writeNumber_30 ⟨rfl, rfl⟩ (fun hc => ?_) (fun hc => ?_)
    · replace hq := ifp hc hq
      refine V.iload d_Mo_writeNumber_33 rfl ?_
      refine V.goto (t := 45) d_Mo_writeNumber_35 ⟨rfl, rfl⟩ ?_
      refine V.imul d_Mo_writeNumber_45 ?_
      refine V.lshr d_Mo_writeNumber_46 ?_
      refine V.l2i d_Mo_writeNumber_47 ?_
      refine V.callV d_Mo_writeNumber_48 (cV_call (t := [_]) (rs := []) rfl (Or.inl rfl) rfl (lk1 g5) ⟨leb rfl, leb rfl⟩) hq (fun h8 hq => ?_)
      replace hq := hq _ rfl
      refine V.iinc (l' := [_, _, _, _, _, _]) d_Mo_writeNumber_51 rfl (show _ + _ = _ + (1 : Int32) from rfl) rfl ?_
      refine V.goto (t := 11) d_Mo_writeNumber_54 ⟨rfl, rfl⟩ ?_
      exact hq
    · replace hq := ifn hc hq
      refine V.iload d_Mo_writeNumber_38 rfl ?_
      refine V.iconst (x := 1) d_Mo_writeNumber_40 (by decide) ?_
      refine V.isub d_Mo_writeNumber_41 ?_
      refine V.iload d_Mo_writeNumber_42 rfl ?_
      refine V.isub d_Mo_writeNumber_44 ?_
      refine V.imul d_Mo_writeNumber_45 ?_
      refine V.lshr d_Mo_writeNumber_46 ?_
      refine V.l2i d_Mo_writeNumber_47 ?_
      refine V.callV d_Mo_writeNumber_48 (cV_call (t := [_]) (rs := []) rfl (Or.inl rfl) rfl (lk1 g5) ⟨leb rfl, leb rfl⟩) hq (fun h11 hq => ?_)
      replace hq := hq _ rfl
      refine V.iinc (l' := [_, _, _, _, _, _]) d_Mo_writeNumber_51 rfl (show _ + _ = _ + (1 : Int32) from rfl) rfl ?_
      refine V.goto (t := 11) d_Mo_writeNumber_54 ⟨rfl, rfl⟩ ?_
      exact hq
  · replace hq := ifn hc hq
    refine V.vret d_Mo_writeNumber_57 rfl ?_
    exact V.rV hq
set_option maxRecDepth 100000 in
theorem w_Mo_sizedUnit {d : Nat} {K : Hp → Prop} {x0 : Nat} {x1 : Int32} {h0 : Hp} (hq :
  ((hS h0 x0).1 = 8 ∧ ((hS h0 (hR h0 x0 12)).1 = 20 ∧ (ainr x1 (hS h0 (hR h0 x0 12)).2 = true ∧ (if (hI h0 (hR h0 x0 12) x1.toNatClampNeg) = (112 : Int32) then (if (hI h0 x0 40) = 0 then (if (1 : Int32) = 0 then Ca d m_Mo_readNumber [.ref x0, .int x1] h0 (QL (fun v4 h5 => ((hS h5 x0).1 = 8 ∧ ((hS h5 (hR h5 x0 29)).1 = 21 ∧ (ainr x1 (hS h5 (hR h5 x0 29)).2 = true ∧ (if v4 < (hL h5 (hR h5 x0 29) x1.toNatClampNeg) then Ca d m_Mo_wrong [.ref x0, .int (1 : Int32)] h5 (QV (fun h10 => ((hS h10 x0).1 = 8 ∧ ((hS h10 (hR h10 x0 34)).1 = 21 ∧ (¬ (hR h10 x0 34) = 1 ∧ (ainr x1 (hS h10 (hR h10 x0 34)).2 = true ∧ (∀ h16 : Hp, h16 = sL h10 (hR h10 x0 34) x1.toNatClampNeg v4 → Ca d m_Mo_give [.ref x0, .long v4] h16 (QV (fun h17 => K h17))))))))) else ((hS h5 (hR h5 x0 30)).1 = 21 ∧ (ainr x1 (hS h5 (hR h5 x0 30)).2 = true ∧ (if (hL h5 (hR h5 x0 30) x1.toNatClampNeg) < v4 then Ca d m_Mo_wrong [.ref x0, .int (1 : Int32)] h5 (QV (fun h21 => ((hS h21 x0).1 = 8 ∧ ((hS h21 (hR h21 x0 34)).1 = 21 ∧ (¬ (hR h21 x0 34) = 1 ∧ (ainr x1 (hS h21 (hR h21 x0 34)).2 = true ∧ (∀ h27 : Hp, h27 = sL h21 (hR h21 x0 34) x1.toNatClampNeg v4 → Ca d m_Mo_give [.ref x0, .long v4] h27 (QV (fun h28 => K h28))))))))) else Ca d m_Mo_wrong [.ref x0, .int (0 : Int32)] h5 (QV (fun h30 => ((hS h30 x0).1 = 8 ∧ ((hS h30 (hR h30 x0 34)).1 = 21 ∧ (¬ (hR h30 x0 34) = 1 ∧ (ainr x1 (hS h30 (hR h30 x0 34)).2 = true ∧ (∀ h36 : Hp, h36 = sL h30 (hR h30 x0 34) x1.toNatClampNeg v4 → Ca d m_Mo_give [.ref x0, .long v4] h36 (QV (fun h37 => K h37)))))))))))))))))) else ((hS h0 (hR h0 x0 13)).1 = 20 ∧ (ainr x1 (hS h0 (hR h0 x0 13)).2 = true ∧ Ca d m_Mo_readBits [.ref x0, .int (hI h0 (hR h0 x0 13) x1.toNatClampNeg)] h0 (QL (fun v41 h42 => ((hS h42 x0).1 = 8 ∧ ((hS h42 (hR h42 x0 29)).1 = 21 ∧ (ainr x1 (hS h42 (hR h42 x0 29)).2 = true ∧ (if v41 < (hL h42 (hR h42 x0 29) x1.toNatClampNeg) then Ca d m_Mo_wrong [.ref x0, .int (1 : Int32)] h42 (QV (fun h47 => ((hS h47 x0).1 = 8 ∧ ((hS h47 (hR h47 x0 34)).1 = 21 ∧ (¬ (hR h47 x0 34) = 1 ∧ (ainr x1 (hS h47 (hR h47 x0 34)).2 = true ∧ (∀ h53 : Hp, h53 = sL h47 (hR h47 x0 34) x1.toNatClampNeg v41 → Ca d m_Mo_give [.ref x0, .long v41] h53 (QV (fun h54 => K h54))))))))) else ((hS h42 (hR h42 x0 30)).1 = 21 ∧ (ainr x1 (hS h42 (hR h42 x0 30)).2 = true ∧ (if (hL h42 (hR h42 x0 30) x1.toNatClampNeg) < v41 then Ca d m_Mo_wrong [.ref x0, .int (1 : Int32)] h42 (QV (fun h58 => ((hS h58 x0).1 = 8 ∧ ((hS h58 (hR h58 x0 34)).1 = 21 ∧ (¬ (hR h58 x0 34) = 1 ∧ (ainr x1 (hS h58 (hR h58 x0 34)).2 = true ∧ (∀ h64 : Hp, h64 = sL h58 (hR h58 x0 34) x1.toNatClampNeg v41 → Ca d m_Mo_give [.ref x0, .long v41] h64 (QV (fun h65 => K h65))))))))) else Ca d m_Mo_wrong [.ref x0, .int (0 : Int32)] h42 (QV (fun h67 => ((hS h67 x0).1 = 8 ∧ ((hS h67 (hR h67 x0 34)).1 = 21 ∧ (¬ (hR h67 x0 34) = 1 ∧ (ainr x1 (hS h67 (hR h67 x0 34)).2 = true ∧ (∀ h73 : Hp, h73 = sL h67 (hR h67 x0 34) x1.toNatClampNeg v41 → Ca d m_Mo_give [.ref x0, .long v41] h73 (QV (fun h74 => K h74))))))))))))))))))))) else Ca d m_Mo_take [.ref x0] h0 (QL (fun v76 h77 => ((hS h77 x0).1 = 8 ∧ ((hS h77 (hR h77 x0 29)).1 = 21 ∧ (ainr x1 (hS h77 (hR h77 x0 29)).2 = true ∧ (if v76 < (hL h77 (hR h77 x0 29) x1.toNatClampNeg) then Ca d m_Mo_wrong [.ref x0, .int (1 : Int32)] h77 (QV (fun h82 => ((hS h82 x0).1 = 8 ∧ ((hS h82 (hR h82 x0 34)).1 = 21 ∧ (¬ (hR h82 x0 34) = 1 ∧ (ainr x1 (hS h82 (hR h82 x0 34)).2 = true ∧ (∀ h88 : Hp, h88 = sL h82 (hR h82 x0 34) x1.toNatClampNeg v76 → (if 0 < (hI h88 x0 41) then K h88 else (if (1 : Int32) = 0 then Ca d m_Mo_writeNumber [.ref x0, .int x1, .long v76] h88 (QV (fun h89 => K h89)) else ((hS h82 (hR h88 x0 13)).1 = 20 ∧ (ainr x1 (hS h82 (hR h88 x0 13)).2 = true ∧ Ca d m_Mo_writeBits [.ref x0, .long v76, .int (hI h88 (hR h88 x0 13) x1.toNatClampNeg)] h88 (QV (fun h93 => K h93))))))))))))) else ((hS h77 (hR h77 x0 30)).1 = 21 ∧ (ainr x1 (hS h77 (hR h77 x0 30)).2 = true ∧ (if (hL h77 (hR h77 x0 30) x1.toNatClampNeg) < v76 then Ca d m_Mo_wrong [.ref x0, .int (1 : Int32)] h77 (QV (fun h97 => ((hS h97 x0).1 = 8 ∧ ((hS h97 (hR h97 x0 34)).1 = 21 ∧ (¬ (hR h97 x0 34) = 1 ∧ (ainr x1 (hS h97 (hR h97 x0 34)).2 = true ∧ (∀ h103 : Hp, h103 = sL h97 (hR h97 x0 34) x1.toNatClampNeg v76 → (if 0 < (hI h103 x0 41) then K h103 else (if (1 : Int32) = 0 then Ca d m_Mo_writeNumber [.ref x0, .int x1, .long v76] h103 (QV (fun h104 => K h104)) else ((hS h97 (hR h103 x0 13)).1 = 20 ∧ (ainr x1 (hS h97 (hR h103 x0 13)).2 = true ∧ Ca d m_Mo_writeBits [.ref x0, .long v76, .int (hI h103 (hR h103 x0 13) x1.toNatClampNeg)] h103 (QV (fun h108 => K h108))))))))))))) else Ca d m_Mo_wrong [.ref x0, .int (0 : Int32)] h77 (QV (fun h110 => ((hS h110 x0).1 = 8 ∧ ((hS h110 (hR h110 x0 34)).1 = 21 ∧ (¬ (hR h110 x0 34) = 1 ∧ (ainr x1 (hS h110 (hR h110 x0 34)).2 = true ∧ (∀ h116 : Hp, h116 = sL h110 (hR h110 x0 34) x1.toNatClampNeg v76 → (if 0 < (hI h116 x0 41) then K h116 else (if (1 : Int32) = 0 then Ca d m_Mo_writeNumber [.ref x0, .int x1, .long v76] h116 (QV (fun h117 => K h117)) else ((hS h110 (hR h116 x0 13)).1 = 20 ∧ (ainr x1 (hS h110 (hR h116 x0 13)).2 = true ∧ Ca d m_Mo_writeBits [.ref x0, .long v76, .int (hI h116 (hR h116 x0 13) x1.toNatClampNeg)] h116 (QV (fun h121 => K h121))))))))))))))))))))))) else (if (hI h0 x0 40) = 0 then (if (0 : Int32) = 0 then Ca d m_Mo_readNumber [.ref x0, .int x1] h0 (QL (fun v123 h124 => ((hS h124 x0).1 = 8 ∧ ((hS h124 (hR h124 x0 29)).1 = 21 ∧ (ainr x1 (hS h124 (hR h124 x0 29)).2 = true ∧ (if v123 < (hL h124 (hR h124 x0 29) x1.toNatClampNeg) then Ca d m_Mo_wrong [.ref x0, .int (1 : Int32)] h124 (QV (fun h129 => ((hS h129 x0).1 = 8 ∧ ((hS h129 (hR h129 x0 34)).1 = 21 ∧ (¬ (hR h129 x0 34) = 1 ∧ (ainr x1 (hS h129 (hR h129 x0 34)).2 = true ∧ (∀ h135 : Hp, h135 = sL h129 (hR h129 x0 34) x1.toNatClampNeg v123 → Ca d m_Mo_give [.ref x0, .long v123] h135 (QV (fun h136 => K h136))))))))) else ((hS h124 (hR h124 x0 30)).1 = 21 ∧ (ainr x1 (hS h124 (hR h124 x0 30)).2 = true ∧ (if (hL h124 (hR h124 x0 30) x1.toNatClampNeg) < v123 then Ca d m_Mo_wrong [.ref x0, .int (1 : Int32)] h124 (QV (fun h140 => ((hS h140 x0).1 = 8 ∧ ((hS h140 (hR h140 x0 34)).1 = 21 ∧ (¬ (hR h140 x0 34) = 1 ∧ (ainr x1 (hS h140 (hR h140 x0 34)).2 = true ∧ (∀ h146 : Hp, h146 = sL h140 (hR h140 x0 34) x1.toNatClampNeg v123 → Ca d m_Mo_give [.ref x0, .long v123] h146 (QV (fun h147 => K h147))))))))) else Ca d m_Mo_wrong [.ref x0, .int (0 : Int32)] h124 (QV (fun h149 => ((hS h149 x0).1 = 8 ∧ ((hS h149 (hR h149 x0 34)).1 = 21 ∧ (¬ (hR h149 x0 34) = 1 ∧ (ainr x1 (hS h149 (hR h149 x0 34)).2 = true ∧ (∀ h155 : Hp, h155 = sL h149 (hR h149 x0 34) x1.toNatClampNeg v123 → Ca d m_Mo_give [.ref x0, .long v123] h155 (QV (fun h156 => K h156)))))))))))))))))) else ((hS h0 (hR h0 x0 13)).1 = 20 ∧ (ainr x1 (hS h0 (hR h0 x0 13)).2 = true ∧ Ca d m_Mo_readBits [.ref x0, .int (hI h0 (hR h0 x0 13) x1.toNatClampNeg)] h0 (QL (fun v160 h161 => ((hS h161 x0).1 = 8 ∧ ((hS h161 (hR h161 x0 29)).1 = 21 ∧ (ainr x1 (hS h161 (hR h161 x0 29)).2 = true ∧ (if v160 < (hL h161 (hR h161 x0 29) x1.toNatClampNeg) then Ca d m_Mo_wrong [.ref x0, .int (1 : Int32)] h161 (QV (fun h166 => ((hS h166 x0).1 = 8 ∧ ((hS h166 (hR h166 x0 34)).1 = 21 ∧ (¬ (hR h166 x0 34) = 1 ∧ (ainr x1 (hS h166 (hR h166 x0 34)).2 = true ∧ (∀ h172 : Hp, h172 = sL h166 (hR h166 x0 34) x1.toNatClampNeg v160 → Ca d m_Mo_give [.ref x0, .long v160] h172 (QV (fun h173 => K h173))))))))) else ((hS h161 (hR h161 x0 30)).1 = 21 ∧ (ainr x1 (hS h161 (hR h161 x0 30)).2 = true ∧ (if (hL h161 (hR h161 x0 30) x1.toNatClampNeg) < v160 then Ca d m_Mo_wrong [.ref x0, .int (1 : Int32)] h161 (QV (fun h177 => ((hS h177 x0).1 = 8 ∧ ((hS h177 (hR h177 x0 34)).1 = 21 ∧ (¬ (hR h177 x0 34) = 1 ∧ (ainr x1 (hS h177 (hR h177 x0 34)).2 = true ∧ (∀ h183 : Hp, h183 = sL h177 (hR h177 x0 34) x1.toNatClampNeg v160 → Ca d m_Mo_give [.ref x0, .long v160] h183 (QV (fun h184 => K h184))))))))) else Ca d m_Mo_wrong [.ref x0, .int (0 : Int32)] h161 (QV (fun h186 => ((hS h186 x0).1 = 8 ∧ ((hS h186 (hR h186 x0 34)).1 = 21 ∧ (¬ (hR h186 x0 34) = 1 ∧ (ainr x1 (hS h186 (hR h186 x0 34)).2 = true ∧ (∀ h192 : Hp, h192 = sL h186 (hR h186 x0 34) x1.toNatClampNeg v160 → Ca d m_Mo_give [.ref x0, .long v160] h192 (QV (fun h193 => K h193))))))))))))))))))))) else Ca d m_Mo_take [.ref x0] h0 (QL (fun v195 h196 => ((hS h196 x0).1 = 8 ∧ ((hS h196 (hR h196 x0 29)).1 = 21 ∧ (ainr x1 (hS h196 (hR h196 x0 29)).2 = true ∧ (if v195 < (hL h196 (hR h196 x0 29) x1.toNatClampNeg) then Ca d m_Mo_wrong [.ref x0, .int (1 : Int32)] h196 (QV (fun h201 => ((hS h201 x0).1 = 8 ∧ ((hS h201 (hR h201 x0 34)).1 = 21 ∧ (¬ (hR h201 x0 34) = 1 ∧ (ainr x1 (hS h201 (hR h201 x0 34)).2 = true ∧ (∀ h207 : Hp, h207 = sL h201 (hR h201 x0 34) x1.toNatClampNeg v195 → (if 0 < (hI h207 x0 41) then K h207 else (if (0 : Int32) = 0 then Ca d m_Mo_writeNumber [.ref x0, .int x1, .long v195] h207 (QV (fun h208 => K h208)) else ((hS h201 (hR h207 x0 13)).1 = 20 ∧ (ainr x1 (hS h201 (hR h207 x0 13)).2 = true ∧ Ca d m_Mo_writeBits [.ref x0, .long v195, .int (hI h207 (hR h207 x0 13) x1.toNatClampNeg)] h207 (QV (fun h212 => K h212))))))))))))) else ((hS h196 (hR h196 x0 30)).1 = 21 ∧ (ainr x1 (hS h196 (hR h196 x0 30)).2 = true ∧ (if (hL h196 (hR h196 x0 30) x1.toNatClampNeg) < v195 then Ca d m_Mo_wrong [.ref x0, .int (1 : Int32)] h196 (QV (fun h216 => ((hS h216 x0).1 = 8 ∧ ((hS h216 (hR h216 x0 34)).1 = 21 ∧ (¬ (hR h216 x0 34) = 1 ∧ (ainr x1 (hS h216 (hR h216 x0 34)).2 = true ∧ (∀ h222 : Hp, h222 = sL h216 (hR h216 x0 34) x1.toNatClampNeg v195 → (if 0 < (hI h222 x0 41) then K h222 else (if (0 : Int32) = 0 then Ca d m_Mo_writeNumber [.ref x0, .int x1, .long v195] h222 (QV (fun h223 => K h223)) else ((hS h216 (hR h222 x0 13)).1 = 20 ∧ (ainr x1 (hS h216 (hR h222 x0 13)).2 = true ∧ Ca d m_Mo_writeBits [.ref x0, .long v195, .int (hI h222 (hR h222 x0 13) x1.toNatClampNeg)] h222 (QV (fun h227 => K h227))))))))))))) else Ca d m_Mo_wrong [.ref x0, .int (0 : Int32)] h196 (QV (fun h229 => ((hS h229 x0).1 = 8 ∧ ((hS h229 (hR h229 x0 34)).1 = 21 ∧ (¬ (hR h229 x0 34) = 1 ∧ (ainr x1 (hS h229 (hR h229 x0 34)).2 = true ∧ (∀ h235 : Hp, h235 = sL h229 (hR h229 x0 34) x1.toNatClampNeg v195 → (if 0 < (hI h235 x0 41) then K h235 else (if (0 : Int32) = 0 then Ca d m_Mo_writeNumber [.ref x0, .int x1, .long v195] h235 (QV (fun h236 => K h236)) else ((hS h229 (hR h235 x0 13)).1 = 20 ∧ (ainr x1 (hS h229 (hR h235 x0 13)).2 = true ∧ Ca d m_Mo_writeBits [.ref x0, .long v195, .int (hI h235 (hR h235 x0 13) x1.toNatClampNeg)] h235 (QV (fun h240 => K h240)))))))))))))))))))))))))))) : Ca (d + 1) m_Mo_sizedUnit [.ref x0, .int x1] h0 (QV K) := by
  show Wp _ _ 0 [some (.ref x0), some (.int x1), none, none, none] [] h0 _
  refine V.aload_n d_Mo_sizedUnit_0 rfl ?_
  obtain ⟨g1, hq⟩ := hq
  refine V.get2 d_Mo_sizedUnit_1 rfl (List.mem_singleton.mpr g1) ?_
  refine V.iload_n d_Mo_sizedUnit_4 rfl ?_
  obtain ⟨g2, hq⟩ := hq
  obtain ⟨g3, hq⟩ := hq
  refine V.iaload d_Mo_sizedUnit_5 g2 g3 ?_
  refine V.bipush (x := 112) d_Mo_sizedUnit_6 (by decide) ?_
  refine V.ic_ne (t := 15) d_Mo_sizedUnit_8 ⟨rfl, rfl⟩ (fun hc => ?_) (fun hc => ?_)
  · replace hq := ifp hc hq
    refine V.iconst (x := 1) d_Mo_sizedUnit_11 (by decide) ?_
    refine V.goto (t := 16) d_Mo_sizedUnit_12 ⟨rfl, rfl⟩ ?_
    refine V.istore_n (l' := [_, _, _, _, _]) d_Mo_sizedUnit_16 rfl (ltb rfl) ?_
    refine V.aload_n d_Mo_sizedUnit_17 rfl ?_
    refine V.get3 d_Mo_sizedUnit_18 rfl (List.mem_singleton.mpr g1) ?_
    refine V.if_eq (t := 100) d_Mo_sizedUnit_21 ⟨rfl, rfl⟩ (fun hc => ?_) (fun hc => ?_)
    · replace hq := ifp hc hq
      refine V.iload_n d_Mo_sizedUnit_100 rfl ?_
      refine V.if_eq (t := 117) d_Mo_sizedUnit_101 ⟨rfl, rfl⟩ (fun hc => ?_) (fun hc => ?_)
      · replace hq := ifp hc hq
        refine V.aload_n d_Mo_sizedUnit_117 rfl ?_
        refine V.iload_n d_Mo_sizedUnit_118 rfl ?_
        refine V.callL d_Mo_sizedUnit_119 (cV_call (t := [_]) (rs := []) rfl (Or.inl rfl) rfl (lk1 g1) ⟨leb rfl, leb rfl⟩) hq (fun v4 h5 hq => ?_)
        refine V.lstore_n (l' := [_, _, _, _, _]) d_Mo_sizedUnit_122 rfl (ltb rfl) ?_
        refine V.aload_n d_Mo_sizedUnit_123 rfl ?_
        refine V.lload_n d_Mo_sizedUnit_124 rfl ?_
        refine V.aload_n d_Mo_sizedUnit_125 rfl ?_
        obtain ⟨g7, hq⟩ := hq
        refine V.get2 d_Mo_sizedUnit_126 rfl (List.mem_singleton.mpr g7) ?_
        refine V.iload_n d_Mo_sizedUnit_129 rfl ?_
        obtain ⟨g8, hq⟩ := hq
        obtain ⟨g9, hq⟩ := hq
        refine V.laload d_Mo_sizedUnit_130 g8 g9 ?_
        refine V.lc_lt d_Mo_sizedUnit_131 d_Mo_sizedUnit_132 ⟨rfl, rfl⟩ (fun hc => ?_) (fun hc => ?_)
        · replace hq := ifp hc hq
          refine V.iconst (x := 1) d_Mo_sizedUnit_146 (by decide) ?_
          refine V.goto (t := 151) d_Mo_sizedUnit_147 ⟨rfl, rfl⟩ ?_
          refine V.callV d_Mo_sizedUnit_151 (cV_call (t := [_]) (rs := []) rfl (Or.inl rfl) rfl (lk1 g7) ⟨leb rfl, leb rfl⟩) hq (fun h10 hq => ?_)
          refine V.aload_n d_Mo_sizedUnit_154 rfl ?_
          obtain ⟨g12, hq⟩ := hq
          refine V.get2 d_Mo_sizedUnit_155 rfl (List.mem_singleton.mpr g12) ?_
          refine V.iload_n d_Mo_sizedUnit_158 rfl ?_
          refine V.lload_n d_Mo_sizedUnit_159 rfl ?_
          obtain ⟨g13, hq⟩ := hq
          obtain ⟨g14, hq⟩ := hq
          obtain ⟨g15, hq⟩ := hq
          refine V.lastore d_Mo_sizedUnit_160 g13 g14 g15 ?_
          replace hq := hq _ rfl
          refine V.aload_n d_Mo_sizedUnit_161 rfl ?_
          refine V.lload_n d_Mo_sizedUnit_162 rfl ?_
          refine V.callV d_Mo_sizedUnit_163 (cV_call (t := [_]) (rs := []) rfl (Or.inl rfl) rfl (lk1 g12) ⟨leb rfl, leb rfl⟩) hq (fun h17 hq => ?_)
          refine V.vret d_Mo_sizedUnit_166 rfl ?_
          exact V.rV hq
        · replace hq := ifn hc hq
          refine V.lload_n d_Mo_sizedUnit_135 rfl ?_
          refine V.aload_n d_Mo_sizedUnit_136 rfl ?_
          refine V.get2 d_Mo_sizedUnit_137 rfl (List.mem_singleton.mpr g7) ?_
          refine V.iload_n d_Mo_sizedUnit_140 rfl ?_
          obtain ⟨g19, hq⟩ := hq
          obtain ⟨g20, hq⟩ := hq
          refine V.laload d_Mo_sizedUnit_141 g19 g20 ?_
          refine V.lc_le d_Mo_sizedUnit_142 d_Mo_sizedUnit_143 ⟨rfl, rfl⟩ (fun hc => ?_) (fun hc => ?_)
          · replace hq := ifp hc hq
            refine V.iconst (x := 1) d_Mo_sizedUnit_146 (by decide) ?_
            refine V.goto (t := 151) d_Mo_sizedUnit_147 ⟨rfl, rfl⟩ ?_
            refine V.callV d_Mo_sizedUnit_151 (cV_call (t := [_]) (rs := []) rfl (Or.inl rfl) rfl (lk1 g7) ⟨leb rfl, leb rfl⟩) hq (fun h21 hq => ?_)
            refine V.aload_n d_Mo_sizedUnit_154 rfl ?_
            obtain ⟨g23, hq⟩ := hq
            refine V.get2 d_Mo_sizedUnit_155 rfl (List.mem_singleton.mpr g23) ?_
            refine V.iload_n d_Mo_sizedUnit_158 rfl ?_
            refine V.lload_n d_Mo_sizedUnit_159 rfl ?_
            obtain ⟨g24, hq⟩ := hq
            obtain ⟨g25, hq⟩ := hq
            obtain ⟨g26, hq⟩ := hq
            refine V.lastore d_Mo_sizedUnit_160 g24 g25 g26 ?_
            replace hq := hq _ rfl
            refine V.aload_n d_Mo_sizedUnit_161 rfl ?_
            refine V.lload_n d_Mo_sizedUnit_162 rfl ?_
            refine V.callV d_Mo_sizedUnit_163 (cV_call (t := [_]) (rs := []) rfl (Or.inl rfl) rfl (lk1 g23) ⟨leb rfl, leb rfl⟩) hq (fun h28 hq => ?_)
            refine V.vret d_Mo_sizedUnit_166 rfl ?_
            exact V.rV hq
          · replace hq := ifn hc hq
            refine V.iconst (x := 0) d_Mo_sizedUnit_150 (by decide) ?_
            refine V.callV d_Mo_sizedUnit_151 (cV_call (t := [_]) (rs := []) rfl (Or.inl rfl) rfl (lk1 g7) ⟨leb rfl, leb rfl⟩) hq (fun h30 hq => ?_)
            refine V.aload_n d_Mo_sizedUnit_154 rfl ?_
            obtain ⟨g32, hq⟩ := hq
            refine V.get2 d_Mo_sizedUnit_155 rfl (List.mem_singleton.mpr g32) ?_
            refine V.iload_n d_Mo_sizedUnit_158 rfl ?_
            refine V.lload_n d_Mo_sizedUnit_159 rfl ?_
            obtain ⟨g33, hq⟩ := hq
            obtain ⟨g34, hq⟩ := hq
            obtain ⟨g35, hq⟩ := hq
            refine V.lastore d_Mo_sizedUnit_160 g33 g34 g35 ?_
            replace hq := hq _ rfl
            refine V.aload_n d_Mo_sizedUnit_161 rfl ?_
            refine V.lload_n d_Mo_sizedUnit_162 rfl ?_
            refine V.callV d_Mo_sizedUnit_163 (cV_call (t := [_]) (rs := []) rfl (Or.inl rfl) rfl (lk1 g32) ⟨leb rfl, leb rfl⟩) hq (fun h37 hq => ?_)
            refine V.vret d_Mo_sizedUnit_166 rfl ?_
            exact V.rV hq
      · replace hq := ifn hc hq
        refine V.aload_n d_Mo_sizedUnit_104 rfl ?_
        refine V.aload_n d_Mo_sizedUnit_105 rfl ?_
        refine V.get2 d_Mo_sizedUnit_106 rfl (List.mem_singleton.mpr g1) ?_
        refine V.iload_n d_Mo_sizedUnit_109 rfl ?_
        obtain ⟨g39, hq⟩ := hq
        obtain ⟨g40, hq⟩ := hq
        refine V.iaload d_Mo_sizedUnit_110 g39 g40 ?_
        refine V.callL d_Mo_sizedUnit_111 (cV_call (t := [_]) (rs := []) rfl (Or.inl rfl) rfl (lk1 g1) ⟨leb rfl, leb rfl⟩) hq (fun v41 h42 hq => ?_)
        refine V.goto (t := 122) d_Mo_sizedUnit_114 ⟨rfl, rfl⟩ ?_
        refine V.lstore_n (l' := [_, _, _, _, _]) d_Mo_sizedUnit_122 rfl (ltb rfl) ?_
        refine V.aload_n d_Mo_sizedUnit_123 rfl ?_
        refine V.lload_n d_Mo_sizedUnit_124 rfl ?_
        refine V.aload_n d_Mo_sizedUnit_125 rfl ?_
        obtain ⟨g44, hq⟩ := hq
        refine V.get2 d_Mo_sizedUnit_126 rfl (List.mem_singleton.mpr g44) ?_
        refine V.iload_n d_Mo_sizedUnit_129 rfl ?_
        obtain ⟨g45, hq⟩ := hq
        obtain ⟨g46, hq⟩ := hq
        refine V.laload d_Mo_sizedUnit_130 g45 g46 ?_
        refine V.lc_lt d_Mo_sizedUnit_131 d_Mo_sizedUnit_132 ⟨rfl, rfl⟩ (fun hc => ?_) (fun hc => ?_)
        · replace hq := ifp hc hq
          refine V.iconst (x := 1) d_Mo_sizedUnit_146 (by decide) ?_
          refine V.goto (t := 151) d_Mo_sizedUnit_147 ⟨rfl, rfl⟩ ?_
          refine V.callV d_Mo_sizedUnit_151 (cV_call (t := [_]) (rs := []) rfl (Or.inl rfl) rfl (lk1 g44) ⟨leb rfl, leb rfl⟩) hq (fun h47 hq => ?_)
          refine V.aload_n d_Mo_sizedUnit_154 rfl ?_
          obtain ⟨g49, hq⟩ := hq
          refine V.get2 d_Mo_sizedUnit_155 rfl (List.mem_singleton.mpr g49) ?_
          refine V.iload_n d_Mo_sizedUnit_158 rfl ?_
          refine V.lload_n d_Mo_sizedUnit_159 rfl ?_
          obtain ⟨g50, hq⟩ := hq
          obtain ⟨g51, hq⟩ := hq
          obtain ⟨g52, hq⟩ := hq
          refine V.lastore d_Mo_sizedUnit_160 g50 g51 g52 ?_
          replace hq := hq _ rfl
          refine V.aload_n d_Mo_sizedUnit_161 rfl ?_
          refine V.lload_n d_Mo_sizedUnit_162 rfl ?_
          refine V.callV d_Mo_sizedUnit_163 (cV_call (t := [_]) (rs := []) rfl (Or.inl rfl) rfl (lk1 g49) ⟨leb rfl, leb rfl⟩) hq (fun h54 hq => ?_)
          refine V.vret d_Mo_sizedUnit_166 rfl ?_
          exact V.rV hq
        · replace hq := ifn hc hq
          refine V.lload_n d_Mo_sizedUnit_135 rfl ?_
          refine V.aload_n d_Mo_sizedUnit_136 rfl ?_
          refine V.get2 d_Mo_sizedUnit_137 rfl (List.mem_singleton.mpr g44) ?_
          refine V.iload_n d_Mo_sizedUnit_140 rfl ?_
          obtain ⟨g56, hq⟩ := hq
          obtain ⟨g57, hq⟩ := hq
          refine V.laload d_Mo_sizedUnit_141 g56 g57 ?_
          refine V.lc_le d_Mo_sizedUnit_142 d_Mo_sizedUnit_143 ⟨rfl, rfl⟩ (fun hc => ?_) (fun hc => ?_)
          · replace hq := ifp hc hq
            refine V.iconst (x := 1) d_Mo_sizedUnit_146 (by decide) ?_
            refine V.goto (t := 151) d_Mo_sizedUnit_147 ⟨rfl, rfl⟩ ?_
            refine V.callV d_Mo_sizedUnit_151 (cV_call (t := [_]) (rs := []) rfl (Or.inl rfl) rfl (lk1 g44) ⟨leb rfl, leb rfl⟩) hq (fun h58 hq => ?_)
            refine V.aload_n d_Mo_sizedUnit_154 rfl ?_
            obtain ⟨g60, hq⟩ := hq
            refine V.get2 d_Mo_sizedUnit_155 rfl (List.mem_singleton.mpr g60) ?_
            refine V.iload_n d_Mo_sizedUnit_158 rfl ?_
            refine V.lload_n d_Mo_sizedUnit_159 rfl ?_
            obtain ⟨g61, hq⟩ := hq
            obtain ⟨g62, hq⟩ := hq
            obtain ⟨g63, hq⟩ := hq
            refine V.lastore d_Mo_sizedUnit_160 g61 g62 g63 ?_
            replace hq := hq _ rfl
            refine V.aload_n d_Mo_sizedUnit_161 rfl ?_
            refine V.lload_n d_Mo_sizedUnit_162 rfl ?_
            refine V.callV d_Mo_sizedUnit_163 (cV_call (t := [_]) (rs := []) rfl (Or.inl rfl) rfl (lk1 g60) ⟨leb rfl, leb rfl⟩) hq (fun h65 hq => ?_)
            refine V.vret d_Mo_sizedUnit_166 rfl ?_
            exact V.rV hq
          · replace hq := ifn hc hq
            refine V.iconst (x := 0) d_Mo_sizedUnit_150 (by decide) ?_
            refine V.callV d_Mo_sizedUnit_151 (cV_call (t := [_]) (rs := []) rfl (Or.inl rfl) rfl (lk1 g44) ⟨leb rfl, leb rfl⟩) hq (fun h67 hq => ?_)
            refine V.aload_n d_Mo_sizedUnit_154 rfl ?_
            obtain ⟨g69, hq⟩ := hq
            refine V.get2 d_Mo_sizedUnit_155 rfl (List.mem_singleton.mpr g69) ?_
            refine V.iload_n d_Mo_sizedUnit_158 rfl ?_
            refine V.lload_n d_Mo_sizedUnit_159 rfl ?_
            obtain ⟨g70, hq⟩ := hq
            obtain ⟨g71, hq⟩ := hq
            obtain ⟨g72, hq⟩ := hq
            refine V.lastore d_Mo_sizedUnit_160 g70 g71 g72 ?_
            replace hq := hq _ rfl
            refine V.aload_n d_Mo_sizedUnit_161 rfl ?_
            refine V.lload_n d_Mo_sizedUnit_162 rfl ?_
            refine V.callV d_Mo_sizedUnit_163 (cV_call (t := [_]) (rs := []) rfl (Or.inl rfl) rfl (lk1 g69) ⟨leb rfl, leb rfl⟩) hq (fun h74 hq => ?_)
            refine V.vret d_Mo_sizedUnit_166 rfl ?_
            exact V.rV hq
    · replace hq := ifn hc hq
      refine V.aload_n d_Mo_sizedUnit_24 rfl ?_
      refine V.callL d_Mo_sizedUnit_25 (cV_call (t := []) (rs := []) rfl (Or.inl rfl) rfl (lk1 g1) ⟨leb rfl, leb rfl⟩) hq (fun v76 h77 hq => ?_)
      refine V.lstore_n (l' := [_, _, _, _, _]) d_Mo_sizedUnit_28 rfl (ltb rfl) ?_
      refine V.aload_n d_Mo_sizedUnit_29 rfl ?_
      refine V.lload_n d_Mo_sizedUnit_30 rfl ?_
      refine V.aload_n d_Mo_sizedUnit_31 rfl ?_
      obtain ⟨g79, hq⟩ := hq
      refine V.get2 d_Mo_sizedUnit_32 rfl (List.mem_singleton.mpr g79) ?_
      refine V.iload_n d_Mo_sizedUnit_35 rfl ?_
      obtain ⟨g80, hq⟩ := hq
      obtain ⟨g81, hq⟩ := hq
      refine V.laload d_Mo_sizedUnit_36 g80 g81 ?_
      refine V.lc_lt d_Mo_sizedUnit_37 d_Mo_sizedUnit_38 ⟨rfl, rfl⟩ (fun hc => ?_) (fun hc => ?_)
      · replace hq := ifp hc hq
        refine V.iconst (x := 1) d_Mo_sizedUnit_52 (by decide) ?_
        refine V.goto (t := 57) d_Mo_sizedUnit_53 ⟨rfl, rfl⟩ ?_
        refine V.callV d_Mo_sizedUnit_57 (cV_call (t := [_]) (rs := []) rfl (Or.inl rfl) rfl (lk1 g79) ⟨leb rfl, leb rfl⟩) hq (fun h82 hq => ?_)
        refine V.aload_n d_Mo_sizedUnit_60 rfl ?_
        obtain ⟨g84, hq⟩ := hq
        refine V.get2 d_Mo_sizedUnit_61 rfl (List.mem_singleton.mpr g84) ?_
        refine V.iload_n d_Mo_sizedUnit_64 rfl ?_
        refine V.lload_n d_Mo_sizedUnit_65 rfl ?_
        obtain ⟨g85, hq⟩ := hq
        obtain ⟨g86, hq⟩ := hq
        obtain ⟨g87, hq⟩ := hq
        refine V.lastore d_Mo_sizedUnit_66 g85 g86 g87 ?_
        replace hq := hq _ rfl
        refine V.aload_n d_Mo_sizedUnit_67 rfl ?_
        refine V.get0 d_Mo_sizedUnit_68 rfl (List.mem_singleton.mpr g84) ?_
        refine V.if_le (t := 75) d_Mo_sizedUnit_71 ⟨rfl, rfl⟩ (fun hc => ?_) (fun hc => ?_)
        · replace hq := ifp hc hq
          refine V.vret d_Mo_sizedUnit_74 rfl ?_
          exact V.rV hq
        · replace hq := ifn hc hq
          refine V.iload_n d_Mo_sizedUnit_75 rfl ?_
          refine V.if_eq (t := 93) d_Mo_sizedUnit_76 ⟨rfl, rfl⟩ (fun hc => ?_) (fun hc => ?_)
          · replace hq := ifp hc hq
            refine V.aload_n d_Mo_sizedUnit_93 rfl ?_
            refine V.iload_n d_Mo_sizedUnit_94 rfl ?_
            refine V.lload_n d_Mo_sizedUnit_95 rfl ?_
            refine V.callV d_Mo_sizedUnit_96 (cV_call (t := [_, _]) (rs := []) rfl (Or.inl rfl) rfl (lk1 g84) ⟨leb rfl, leb rfl⟩) hq (fun h89 hq => ?_)
            refine V.vret d_Mo_sizedUnit_99 rfl ?_
            exact V.rV hq
          · replace hq := ifn hc hq
            refine V.aload_n d_Mo_sizedUnit_79 rfl ?_
            refine V.lload_n d_Mo_sizedUnit_80 rfl ?_
            refine V.aload_n d_Mo_sizedUnit_81 rfl ?_
            refine V.get2 d_Mo_sizedUnit_82 rfl (List.mem_singleton.mpr g84) ?_
            refine V.iload_n d_Mo_sizedUnit_85 rfl ?_
            obtain ⟨g91, hq⟩ := hq
            obtain ⟨g92, hq⟩ := hq
            refine V.iaload d_Mo_sizedUnit_86 g91 g92 ?_
            refine V.callV d_Mo_sizedUnit_87 (cV_call (t := [_, _]) (rs := []) rfl (Or.inl rfl) rfl (lk1 g84) ⟨leb rfl, leb rfl⟩) hq (fun h93 hq => ?_)
            refine V.goto (t := 99) d_Mo_sizedUnit_90 ⟨rfl, rfl⟩ ?_
            refine V.vret d_Mo_sizedUnit_99 rfl ?_
            exact V.rV hq
      · replace hq := ifn hc hq
        refine V.lload_n d_Mo_sizedUnit_41 rfl ?_
        refine V.aload_n d_Mo_sizedUnit_42 rfl ?_
        refine V.get2 d_Mo_sizedUnit_43 rfl (List.mem_singleton.mpr g79) ?_
        refine V.iload_n d_Mo_sizedUnit_46 rfl ?_
        obtain ⟨g95, hq⟩ := hq
        obtain ⟨g96, hq⟩ := hq
        refine V.laload d_Mo_sizedUnit_47 g95 g96 ?_
        refine V.lc_le d_Mo_sizedUnit_48 d_Mo_sizedUnit_49 ⟨rfl, rfl⟩ (fun hc => ?_) (fun hc => ?_)
        · replace hq := ifp hc hq
          refine V.iconst (x := 1) d_Mo_sizedUnit_52 (by decide) ?_
          refine V.goto (t := 57) d_Mo_sizedUnit_53 ⟨rfl, rfl⟩ ?_
          refine V.callV d_Mo_sizedUnit_57 (cV_call (t := [_]) (rs := []) rfl (Or.inl rfl) rfl (lk1 g79) ⟨leb rfl, leb rfl⟩) hq (fun h97 hq => ?_)
          refine V.aload_n d_Mo_sizedUnit_60 rfl ?_
          obtain ⟨g99, hq⟩ := hq
          refine V.get2 d_Mo_sizedUnit_61 rfl (List.mem_singleton.mpr g99) ?_
          refine V.iload_n d_Mo_sizedUnit_64 rfl ?_
          refine V.lload_n d_Mo_sizedUnit_65 rfl ?_
          obtain ⟨g100, hq⟩ := hq
          obtain ⟨g101, hq⟩ := hq
          obtain ⟨g102, hq⟩ := hq
          refine V.lastore d_Mo_sizedUnit_66 g100 g101 g102 ?_
          replace hq := hq _ rfl
          refine V.aload_n d_Mo_sizedUnit_67 rfl ?_
          refine V.get0 d_Mo_sizedUnit_68 rfl (List.mem_singleton.mpr g99) ?_
          refine V.if_le (t := 75) d_Mo_sizedUnit_71 ⟨rfl, rfl⟩ (fun hc => ?_) (fun hc => ?_)
          · replace hq := ifp hc hq
            refine V.vret d_Mo_sizedUnit_74 rfl ?_
            exact V.rV hq
          · replace hq := ifn hc hq
            refine V.iload_n d_Mo_sizedUnit_75 rfl ?_
            refine V.if_eq (t := 93) d_Mo_sizedUnit_76 ⟨rfl, rfl⟩ (fun hc => ?_) (fun hc => ?_)
            · replace hq := ifp hc hq
              refine V.aload_n d_Mo_sizedUnit_93 rfl ?_
              refine V.iload_n d_Mo_sizedUnit_94 rfl ?_
              refine V.lload_n d_Mo_sizedUnit_95 rfl ?_
              refine V.callV d_Mo_sizedUnit_96 (cV_call (t := [_, _]) (rs := []) rfl (Or.inl rfl) rfl (lk1 g99) ⟨leb rfl, leb rfl⟩) hq (fun h104 hq => ?_)
              refine V.vret d_Mo_sizedUnit_99 rfl ?_
              exact V.rV hq
            · replace hq := ifn hc hq
              refine V.aload_n d_Mo_sizedUnit_79 rfl ?_
              refine V.lload_n d_Mo_sizedUnit_80 rfl ?_
              refine V.aload_n d_Mo_sizedUnit_81 rfl ?_
              refine V.get2 d_Mo_sizedUnit_82 rfl (List.mem_singleton.mpr g99) ?_
              refine V.iload_n d_Mo_sizedUnit_85 rfl ?_
              obtain ⟨g106, hq⟩ := hq
              obtain ⟨g107, hq⟩ := hq
              refine V.iaload d_Mo_sizedUnit_86 g106 g107 ?_
              refine V.callV d_Mo_sizedUnit_87 (cV_call (t := [_, _]) (rs := []) rfl (Or.inl rfl) rfl (lk1 g99) ⟨leb rfl, leb rfl⟩) hq (fun h108 hq => ?_)
              refine V.goto (t := 99) d_Mo_sizedUnit_90 ⟨rfl, rfl⟩ ?_
              refine V.vret d_Mo_sizedUnit_99 rfl ?_
              exact V.rV hq
        · replace hq := ifn hc hq
          refine V.iconst (x := 0) d_Mo_sizedUnit_56 (by decide) ?_
          refine V.callV d_Mo_sizedUnit_57 (cV_call (t := [_]) (rs := []) rfl (Or.inl rfl) rfl (lk1 g79) ⟨leb rfl, leb rfl⟩) hq (fun h110 hq => ?_)
          refine V.aload_n d_Mo_sizedUnit_60 rfl ?_
          obtain ⟨g112, hq⟩ := hq
          refine V.get2 d_Mo_sizedUnit_61 rfl (List.mem_singleton.mpr g112) ?_
          refine V.iload_n d_Mo_sizedUnit_64 rfl ?_
          refine V.lload_n d_Mo_sizedUnit_65 rfl ?_
          obtain ⟨g113, hq⟩ := hq
          obtain ⟨g114, hq⟩ := hq
          obtain ⟨g115, hq⟩ := hq
          refine V.lastore d_Mo_sizedUnit_66 g113 g114 g115 ?_
          replace hq := hq _ rfl
          refine V.aload_n d_Mo_sizedUnit_67 rfl ?_
          refine V.get0 d_Mo_sizedUnit_68 rfl (List.mem_singleton.mpr g112) ?_
          refine V.if_le (t := 75) d_Mo_sizedUnit_71 ⟨rfl, rfl⟩ (fun hc => ?_) (fun hc => ?_)
          · replace hq := ifp hc hq
            refine V.vret d_Mo_sizedUnit_74 rfl ?_
            exact V.rV hq
          · replace hq := ifn hc hq
            refine V.iload_n d_Mo_sizedUnit_75 rfl ?_
            refine V.if_eq (t := 93) d_Mo_sizedUnit_76 ⟨rfl, rfl⟩ (fun hc => ?_) (fun hc => ?_)
            · replace hq := ifp hc hq
              refine V.aload_n d_Mo_sizedUnit_93 rfl ?_
              refine V.iload_n d_Mo_sizedUnit_94 rfl ?_
              refine V.lload_n d_Mo_sizedUnit_95 rfl ?_
              refine V.callV d_Mo_sizedUnit_96 (cV_call (t := [_, _]) (rs := []) rfl (Or.inl rfl) rfl (lk1 g112) ⟨leb rfl, leb rfl⟩) hq (fun h117 hq => ?_)
              refine V.vret d_Mo_sizedUnit_99 rfl ?_
              exact V.rV hq
            · replace hq := ifn hc hq
              refine V.aload_n d_Mo_sizedUnit_79 rfl ?_
              refine V.lload_n d_Mo_sizedUnit_80 rfl ?_
              refine V.aload_n d_Mo_sizedUnit_81 rfl ?_
              refine V.get2 d_Mo_sizedUnit_82 rfl (List.mem_singleton.mpr g112) ?_
              refine V.iload_n d_Mo_sizedUnit_85 rfl ?_
              obtain ⟨g119, hq⟩ := hq
              obtain ⟨g120, hq⟩ := hq
              refine V.iaload d_Mo_sizedUnit_86 g119 g120 ?_
              refine V.callV d_Mo_sizedUnit_87 (cV_call (t := [_, _]) (rs := []) rfl (Or.inl rfl) rfl (lk1 g112) ⟨leb rfl, leb rfl⟩) hq (fun h121 hq => ?_)
              refine V.goto (t := 99) d_Mo_sizedUnit_90 ⟨rfl, rfl⟩ ?_
              refine V.vret d_Mo_sizedUnit_99 rfl ?_
              exact V.rV hq
  · replace hq := ifn hc hq
    refine V.iconst (x := 0) d_Mo_sizedUnit_15 (by decide) ?_
    refine V.istore_n (l' := [_, _, _, _, _]) d_Mo_sizedUnit_16 rfl (ltb rfl) ?_
    refine V.aload_n d_Mo_sizedUnit_17 rfl ?_
    refine V.get3 d_Mo_sizedUnit_18 rfl (List.mem_singleton.mpr g1) ?_
    refine V.if_eq (t := 100) d_Mo_sizedUnit_21 ⟨rfl, rfl⟩ (fun hc => ?_) (fun hc => ?_)
    · replace hq := ifp hc hq
      refine V.iload_n d_Mo_sizedUnit_100 rfl ?_
      refine V.if_eq (t := 117) d_Mo_sizedUnit_101 ⟨rfl, rfl⟩ (fun hc => ?_) (fun hc => ?_)
      · replace hq := ifp hc hq
        refine V.aload_n d_Mo_sizedUnit_117 rfl ?_
        refine V.iload_n d_Mo_sizedUnit_118 rfl ?_
        refine V.callL d_Mo_sizedUnit_119 (cV_call (t := [_]) (rs := []) rfl (Or.inl rfl) rfl (lk1 g1) ⟨leb rfl, leb rfl⟩) hq (fun v123 h124 hq => ?_)
        refine V.lstore_n (l' := [_, _, _, _, _]) d_Mo_sizedUnit_122 rfl (ltb rfl) ?_
        refine V.aload_n d_Mo_sizedUnit_123 rfl ?_
        refine V.lload_n d_Mo_sizedUnit_124 rfl ?_
        refine V.aload_n d_Mo_sizedUnit_125 rfl ?_
        obtain ⟨g126, hq⟩ := hq
        refine V.get2 d_Mo_sizedUnit_126 rfl (List.mem_singleton.mpr g126) ?_
        refine V.iload_n d_Mo_sizedUnit_129 rfl ?_
        obtain ⟨g127, hq⟩ := hq
        obtain ⟨g128, hq⟩ := hq
        refine V.laload d_Mo_sizedUnit_130 g127 g128 ?_
        refine V.lc_lt d_Mo_sizedUnit_131 d_Mo_sizedUnit_132 ⟨rfl, rfl⟩ (fun hc => ?_) (fun hc => ?_)
        · replace hq := ifp hc hq
          refine V.iconst (x := 1) d_Mo_sizedUnit_146 (by decide) ?_
          refine V.goto (t := 151) d_Mo_sizedUnit_147 ⟨rfl, rfl⟩ ?_
          refine V.callV d_Mo_sizedUnit_151 (cV_call (t := [_]) (rs := []) rfl (Or.inl rfl) rfl (lk1 g126) ⟨leb rfl, leb rfl⟩) hq (fun h129 hq => ?_)
          refine V.aload_n d_Mo_sizedUnit_154 rfl ?_
          obtain ⟨g131, hq⟩ := hq
          refine V.get2 d_Mo_sizedUnit_155 rfl (List.mem_singleton.mpr g131) ?_
          refine V.iload_n d_Mo_sizedUnit_158 rfl ?_
          refine V.lload_n d_Mo_sizedUnit_159 rfl ?_
          obtain ⟨g132, hq⟩ := hq
          obtain ⟨g133, hq⟩ := hq
          obtain ⟨g134, hq⟩ := hq
          refine V.lastore d_Mo_sizedUnit_160 g132 g133 g134 ?_
          replace hq := hq _ rfl
          refine V.aload_n d_Mo_sizedUnit_161 rfl ?_
          refine V.lload_n d_Mo_sizedUnit_162 rfl ?_
          refine V.callV d_Mo_sizedUnit_163 (cV_call (t := [_]) (rs := []) rfl (Or.inl rfl) rfl (lk1 g131) ⟨leb rfl, leb rfl⟩) hq (fun h136 hq => ?_)
          refine V.vret d_Mo_sizedUnit_166 rfl ?_
          exact V.rV hq
        · replace hq := ifn hc hq
          refine V.lload_n d_Mo_sizedUnit_135 rfl ?_
          refine V.aload_n d_Mo_sizedUnit_136 rfl ?_
          refine V.get2 d_Mo_sizedUnit_137 rfl (List.mem_singleton.mpr g126) ?_
          refine V.iload_n d_Mo_sizedUnit_140 rfl ?_
          obtain ⟨g138, hq⟩ := hq
          obtain ⟨g139, hq⟩ := hq
          refine V.laload d_Mo_sizedUnit_141 g138 g139 ?_
          refine V.lc_le d_Mo_sizedUnit_142 d_Mo_sizedUnit_143 ⟨rfl, rfl⟩ (fun hc => ?_) (fun hc => ?_)
          · replace hq := ifp hc hq
            refine V.iconst (x := 1) d_Mo_sizedUnit_146 (by decide) ?_
            refine V.goto (t := 151) d_Mo_sizedUnit_147 ⟨rfl, rfl⟩ ?_
            refine V.callV d_Mo_sizedUnit_151 (cV_call (t := [_]) (rs := []) rfl (Or.inl rfl) rfl (lk1 g126) ⟨leb rfl, leb rfl⟩) hq (fun h140 hq => ?_)
            refine V.aload_n d_Mo_sizedUnit_154 rfl ?_
            obtain ⟨g142, hq⟩ := hq
            refine V.get2 d_Mo_sizedUnit_155 rfl (List.mem_singleton.mpr g142) ?_
            refine V.iload_n d_Mo_sizedUnit_158 rfl ?_
            refine V.lload_n d_Mo_sizedUnit_159 rfl ?_
            obtain ⟨g143, hq⟩ := hq
            obtain ⟨g144, hq⟩ := hq
            obtain ⟨g145, hq⟩ := hq
            refine V.lastore d_Mo_sizedUnit_160 g143 g144 g145 ?_
            replace hq := hq _ rfl
            refine V.aload_n d_Mo_sizedUnit_161 rfl ?_
            refine V.lload_n d_Mo_sizedUnit_162 rfl ?_
            refine V.callV d_Mo_sizedUnit_163 (cV_call (t := [_]) (rs := []) rfl (Or.inl rfl) rfl (lk1 g142) ⟨leb rfl, leb rfl⟩) hq (fun h147 hq => ?_)
            refine V.vret d_Mo_sizedUnit_166 rfl ?_
            exact V.rV hq
          · replace hq := ifn hc hq
            refine V.iconst (x := 0) d_Mo_sizedUnit_150 (by decide) ?_
            refine V.callV d_Mo_sizedUnit_151 (cV_call (t := [_]) (rs := []) rfl (Or.inl rfl) rfl (lk1 g126) ⟨leb rfl, leb rfl⟩) hq (fun h149 hq => ?_)
            refine V.aload_n d_Mo_sizedUnit_154 rfl ?_
            obtain ⟨g151, hq⟩ := hq
            refine V.get2 d_Mo_sizedUnit_155 rfl (List.mem_singleton.mpr g151) ?_
            refine V.iload_n d_Mo_sizedUnit_158 rfl ?_
            refine V.lload_n d_Mo_sizedUnit_159 rfl ?_
            obtain ⟨g152, hq⟩ := hq
            obtain ⟨g153, hq⟩ := hq
            obtain ⟨g154, hq⟩ := hq
            refine V.lastore d_Mo_sizedUnit_160 g152 g153 g154 ?_
            replace hq := hq _ rfl
            refine V.aload_n d_Mo_sizedUnit_161 rfl ?_
            refine V.lload_n d_Mo_sizedUnit_162 rfl ?_
            refine V.callV d_Mo_sizedUnit_163 (cV_call (t := [_]) (rs := []) rfl (Or.inl rfl) rfl (lk1 g151) ⟨leb rfl, leb rfl⟩) hq (fun h156 hq => ?_)
            refine V.vret d_Mo_sizedUnit_166 rfl ?_
            exact V.rV hq
      · replace hq := ifn hc hq
        refine V.aload_n d_Mo_sizedUnit_104 rfl ?_
        refine V.aload_n d_Mo_sizedUnit_105 rfl ?_
        refine V.get2 d_Mo_sizedUnit_106 rfl (List.mem_singleton.mpr g1) ?_
        refine V.iload_n d_Mo_sizedUnit_109 rfl ?_
        obtain ⟨g158, hq⟩ := hq
        obtain ⟨g159, hq⟩ := hq
        refine V.iaload d_Mo_sizedUnit_110 g158 g159 ?_
        refine V.callL d_Mo_sizedUnit_111 (cV_call (t := [_]) (rs := []) rfl (Or.inl rfl) rfl (lk1 g1) ⟨leb rfl, leb rfl⟩) hq (fun v160 h161 hq => ?_)
        refine V.goto (t := 122) d_Mo_sizedUnit_114 ⟨rfl, rfl⟩ ?_
        refine V.lstore_n (l' := [_, _, _, _, _]) d_Mo_sizedUnit_122 rfl (ltb rfl) ?_
        refine V.aload_n d_Mo_sizedUnit_123 rfl ?_
        refine V.lload_n d_Mo_sizedUnit_124 rfl ?_
        refine V.aload_n d_Mo_sizedUnit_125 rfl ?_
        obtain ⟨g163, hq⟩ := hq
        refine V.get2 d_Mo_sizedUnit_126 rfl (List.mem_singleton.mpr g163) ?_
        refine V.iload_n d_Mo_sizedUnit_129 rfl ?_
        obtain ⟨g164, hq⟩ := hq
        obtain ⟨g165, hq⟩ := hq
        refine V.laload d_Mo_sizedUnit_130 g164 g165 ?_
        refine V.lc_lt d_Mo_sizedUnit_131 d_Mo_sizedUnit_132 ⟨rfl, rfl⟩ (fun hc => ?_) (fun hc => ?_)
        · replace hq := ifp hc hq
          refine V.iconst (x := 1) d_Mo_sizedUnit_146 (by decide) ?_
          refine V.goto (t := 151) d_Mo_sizedUnit_147 ⟨rfl, rfl⟩ ?_
          refine V.callV d_Mo_sizedUnit_151 (cV_call (t := [_]) (rs := []) rfl (Or.inl rfl) rfl (lk1 g163) ⟨leb rfl, leb rfl⟩) hq (fun h166 hq => ?_)
          refine V.aload_n d_Mo_sizedUnit_154 rfl ?_
          obtain ⟨g168, hq⟩ := hq
          refine V.get2 d_Mo_sizedUnit_155 rfl (List.mem_singleton.mpr g168) ?_
          refine V.iload_n d_Mo_sizedUnit_158 rfl ?_
          refine V.lload_n d_Mo_sizedUnit_159 rfl ?_
          obtain ⟨g169, hq⟩ := hq
          obtain ⟨g170, hq⟩ := hq
          obtain ⟨g171, hq⟩ := hq
          refine V.lastore d_Mo_sizedUnit_160 g169 g170 g171 ?_
          replace hq := hq _ rfl
          refine V.aload_n d_Mo_sizedUnit_161 rfl ?_
          refine V.lload_n d_Mo_sizedUnit_162 rfl ?_
          refine V.callV d_Mo_sizedUnit_163 (cV_call (t := [_]) (rs := []) rfl (Or.inl rfl) rfl (lk1 g168) ⟨leb rfl, leb rfl⟩) hq (fun h173 hq => ?_)
          refine V.vret d_Mo_sizedUnit_166 rfl ?_
          exact V.rV hq
        · replace hq := ifn hc hq
          refine V.lload_n d_Mo_sizedUnit_135 rfl ?_
          refine V.aload_n d_Mo_sizedUnit_136 rfl ?_
          refine V.get2 d_Mo_sizedUnit_137 rfl (List.mem_singleton.mpr g163) ?_
          refine V.iload_n d_Mo_sizedUnit_140 rfl ?_
          obtain ⟨g175, hq⟩ := hq
          obtain ⟨g176, hq⟩ := hq
          refine V.laload d_Mo_sizedUnit_141 g175 g176 ?_
          refine V.lc_le d_Mo_sizedUnit_142 d_Mo_sizedUnit_143 ⟨rfl, rfl⟩ (fun hc => ?_) (fun hc => ?_)
          · replace hq := ifp hc hq
            refine V.iconst (x := 1) d_Mo_sizedUnit_146 (by decide) ?_
            refine V.goto (t := 151) d_Mo_sizedUnit_147 ⟨rfl, rfl⟩ ?_
            refine V.callV d_Mo_sizedUnit_151 (cV_call (t := [_]) (rs := []) rfl (Or.inl rfl) rfl (lk1 g163) ⟨leb rfl, leb rfl⟩) hq (fun h177 hq => ?_)
            refine V.aload_n d_Mo_sizedUnit_154 rfl ?_
            obtain ⟨g179, hq⟩ := hq
            refine V.get2 d_Mo_sizedUnit_155 rfl (List.mem_singleton.mpr g179) ?_
            refine V.iload_n d_Mo_sizedUnit_158 rfl ?_
            refine V.lload_n d_Mo_sizedUnit_159 rfl ?_
            obtain ⟨g180, hq⟩ := hq
            obtain ⟨g181, hq⟩ := hq
            obtain ⟨g182, hq⟩ := hq
            refine V.lastore d_Mo_sizedUnit_160 g180 g181 g182 ?_
            replace hq := hq _ rfl
            refine V.aload_n d_Mo_sizedUnit_161 rfl ?_
            refine V.lload_n d_Mo_sizedUnit_162 rfl ?_
            refine V.callV d_Mo_sizedUnit_163 (cV_call (t := [_]) (rs := []) rfl (Or.inl rfl) rfl (lk1 g179) ⟨leb rfl, leb rfl⟩) hq (fun h184 hq => ?_)
            refine V.vret d_Mo_sizedUnit_166 rfl ?_
            exact V.rV hq
          · replace hq := ifn hc hq
            refine V.iconst (x := 0) d_Mo_sizedUnit_150 (by decide) ?_
            refine V.callV d_Mo_sizedUnit_151 (cV_call (t := [_]) (rs := []) rfl (Or.inl rfl) rfl (lk1 g163) ⟨leb rfl, leb rfl⟩) hq (fun h186 hq => ?_)
            refine V.aload_n d_Mo_sizedUnit_154 rfl ?_
            obtain ⟨g188, hq⟩ := hq
            refine V.get2 d_Mo_sizedUnit_155 rfl (List.mem_singleton.mpr g188) ?_
            refine V.iload_n d_Mo_sizedUnit_158 rfl ?_
            refine V.lload_n d_Mo_sizedUnit_159 rfl ?_
            obtain ⟨g189, hq⟩ := hq
            obtain ⟨g190, hq⟩ := hq
            obtain ⟨g191, hq⟩ := hq
            refine V.lastore d_Mo_sizedUnit_160 g189 g190 g191 ?_
            replace hq := hq _ rfl
            refine V.aload_n d_Mo_sizedUnit_161 rfl ?_
            refine V.lload_n d_Mo_sizedUnit_162 rfl ?_
            refine V.callV d_Mo_sizedUnit_163 (cV_call (t := [_]) (rs := []) rfl (Or.inl rfl) rfl (lk1 g188) ⟨leb rfl, leb rfl⟩) hq (fun h193 hq => ?_)
            refine V.vret d_Mo_sizedUnit_166 rfl ?_
            exact V.rV hq
    · replace hq := ifn hc hq
      refine V.aload_n d_Mo_sizedUnit_24 rfl ?_
      refine V.callL d_Mo_sizedUnit_25 (cV_call (t := []) (rs := []) rfl (Or.inl rfl) rfl (lk1 g1) ⟨leb rfl, leb rfl⟩) hq (fun v195 h196 hq => ?_)
      refine V.lstore_n (l' := [_, _, _, _, _]) d_Mo_sizedUnit_28 rfl (ltb rfl) ?_
      refine V.aload_n d_Mo_sizedUnit_29 rfl ?_
      refine V.lload_n d_Mo_sizedUnit_30 rfl ?_
      refine V.aload_n d_Mo_sizedUnit_31 rfl ?_
      obtain ⟨g198, hq⟩ := hq
      refine V.get2 d_Mo_sizedUnit_32 rfl (List.mem_singleton.mpr g198) ?_
      refine V.iload_n d_Mo_sizedUnit_35 rfl ?_
      obtain ⟨g199, hq⟩ := hq
      obtain ⟨g200, hq⟩ := hq
      refine V.laload d_Mo_sizedUnit_36 g199 g200 ?_
      refine V.lc_lt d_Mo_sizedUnit_37 d_Mo_sizedUnit_38 ⟨rfl, rfl⟩ (fun hc => ?_) (fun hc => ?_)
      · replace hq := ifp hc hq
        refine V.iconst (x := 1) d_Mo_sizedUnit_52 (by decide) ?_
        refine V.goto (t := 57) d_Mo_sizedUnit_53 ⟨rfl, rfl⟩ ?_
        refine V.callV d_Mo_sizedUnit_57 (cV_call (t := [_]) (rs := []) rfl (Or.inl rfl) rfl (lk1 g198) ⟨leb rfl, leb rfl⟩) hq (fun h201 hq => ?_)
        refine V.aload_n d_Mo_sizedUnit_60 rfl ?_
        obtain ⟨g203, hq⟩ := hq
        refine V.get2 d_Mo_sizedUnit_61 rfl (List.mem_singleton.mpr g203) ?_
        refine V.iload_n d_Mo_sizedUnit_64 rfl ?_
        refine V.lload_n d_Mo_sizedUnit_65 rfl ?_
        obtain ⟨g204, hq⟩ := hq
        obtain ⟨g205, hq⟩ := hq
        obtain ⟨g206, hq⟩ := hq
        refine V.lastore d_Mo_sizedUnit_66 g204 g205 g206 ?_
        replace hq := hq _ rfl
        refine V.aload_n d_Mo_sizedUnit_67 rfl ?_
        refine V.get0 d_Mo_sizedUnit_68 rfl (List.mem_singleton.mpr g203) ?_
        refine V.if_le (t := 75) d_Mo_sizedUnit_71 ⟨rfl, rfl⟩ (fun hc => ?_) (fun hc => ?_)
        · replace hq := ifp hc hq
          refine V.vret d_Mo_sizedUnit_74 rfl ?_
          exact V.rV hq
        · replace hq := ifn hc hq
          refine V.iload_n d_Mo_sizedUnit_75 rfl ?_
          refine V.if_eq (t := 93) d_Mo_sizedUnit_76 ⟨rfl, rfl⟩ (fun hc => ?_) (fun hc => ?_)
          · replace hq := ifp hc hq
            refine V.aload_n d_Mo_sizedUnit_93 rfl ?_
            refine V.iload_n d_Mo_sizedUnit_94 rfl ?_
            refine V.lload_n d_Mo_sizedUnit_95 rfl ?_
            refine V.callV d_Mo_sizedUnit_96 (cV_call (t := [_, _]) (rs := []) rfl (Or.inl rfl) rfl (lk1 g203) ⟨leb rfl, leb rfl⟩) hq (fun h208 hq => ?_)
            refine V.vret d_Mo_sizedUnit_99 rfl ?_
            exact V.rV hq
          · replace hq := ifn hc hq
            refine V.aload_n d_Mo_sizedUnit_79 rfl ?_
            refine V.lload_n d_Mo_sizedUnit_80 rfl ?_
            refine V.aload_n d_Mo_sizedUnit_81 rfl ?_
            refine V.get2 d_Mo_sizedUnit_82 rfl (List.mem_singleton.mpr g203) ?_
            refine V.iload_n d_Mo_sizedUnit_85 rfl ?_
            obtain ⟨g210, hq⟩ := hq
            obtain ⟨g211, hq⟩ := hq
            refine V.iaload d_Mo_sizedUnit_86 g210 g211 ?_
            refine V.callV d_Mo_sizedUnit_87 (cV_call (t := [_, _]) (rs := []) rfl (Or.inl rfl) rfl (lk1 g203) ⟨leb rfl, leb rfl⟩) hq (fun h212 hq => ?_)
            refine V.goto (t := 99) d_Mo_sizedUnit_90 ⟨rfl, rfl⟩ ?_
            refine V.vret d_Mo_sizedUnit_99 rfl ?_
            exact V.rV hq
      · replace hq := ifn hc hq
        refine V.lload_n d_Mo_sizedUnit_41 rfl ?_
        refine V.aload_n d_Mo_sizedUnit_42 rfl ?_
        refine V.get2 d_Mo_sizedUnit_43 rfl (List.mem_singleton.mpr g198) ?_
        refine V.iload_n d_Mo_sizedUnit_46 rfl ?_
        obtain ⟨g214, hq⟩ := hq
        obtain ⟨g215, hq⟩ := hq
        refine V.laload d_Mo_sizedUnit_47 g214 g215 ?_
        refine V.lc_le d_Mo_sizedUnit_48 d_Mo_sizedUnit_49 ⟨rfl, rfl⟩ (fun hc => ?_) (fun hc => ?_)
        · replace hq := ifp hc hq
          refine V.iconst (x := 1) d_Mo_sizedUnit_52 (by decide) ?_
          refine V.goto (t := 57) d_Mo_sizedUnit_53 ⟨rfl, rfl⟩ ?_
          refine V.callV d_Mo_sizedUnit_57 (cV_call (t := [_]) (rs := []) rfl (Or.inl rfl) rfl (lk1 g198) ⟨leb rfl, leb rfl⟩) hq (fun h216 hq => ?_)
          refine V.aload_n d_Mo_sizedUnit_60 rfl ?_
          obtain ⟨g218, hq⟩ := hq
          refine V.get2 d_Mo_sizedUnit_61 rfl (List.mem_singleton.mpr g218) ?_
          refine V.iload_n d_Mo_sizedUnit_64 rfl ?_
          refine V.lload_n d_Mo_sizedUnit_65 rfl ?_
          obtain ⟨g219, hq⟩ := hq
          obtain ⟨g220, hq⟩ := hq
          obtain ⟨g221, hq⟩ := hq
          refine V.lastore d_Mo_sizedUnit_66 g219 g220 g221 ?_
          replace hq := hq _ rfl
          refine V.aload_n d_Mo_sizedUnit_67 rfl ?_
          refine V.get0 d_Mo_sizedUnit_68 rfl (List.mem_singleton.mpr g218) ?_
          refine V.if_le (t := 75) d_Mo_sizedUnit_71 ⟨rfl, rfl⟩ (fun hc => ?_) (fun hc => ?_)
          · replace hq := ifp hc hq
            refine V.vret d_Mo_sizedUnit_74 rfl ?_
            exact V.rV hq
          · replace hq := ifn hc hq
            refine V.iload_n d_Mo_sizedUnit_75 rfl ?_
            refine V.if_eq (t := 93) d_Mo_sizedUnit_76 ⟨rfl, rfl⟩ (fun hc => ?_) (fun hc => ?_)
            · replace hq := ifp hc hq
              refine V.aload_n d_Mo_sizedUnit_93 rfl ?_
              refine V.iload_n d_Mo_sizedUnit_94 rfl ?_
              refine V.lload_n d_Mo_sizedUnit_95 rfl ?_
              refine V.callV d_Mo_sizedUnit_96 (cV_call (t := [_, _]) (rs := []) rfl (Or.inl rfl) rfl (lk1 g218) ⟨leb rfl, leb rfl⟩) hq (fun h223 hq => ?_)
              refine V.vret d_Mo_sizedUnit_99 rfl ?_
              exact V.rV hq
            · replace hq := ifn hc hq
              refine V.aload_n d_Mo_sizedUnit_79 rfl ?_
              refine V.lload_n d_Mo_sizedUnit_80 rfl ?_
              refine V.aload_n d_Mo_sizedUnit_81 rfl ?_
              refine V.get2 d_Mo_sizedUnit_82 rfl (List.mem_singleton.mpr g218) ?_
              refine V.iload_n d_Mo_sizedUnit_85 rfl ?_
              obtain ⟨g225, hq⟩ := hq
              obtain ⟨g226, hq⟩ := hq
              refine V.iaload d_Mo_sizedUnit_86 g225 g226 ?_
              refine V.callV d_Mo_sizedUnit_87 (cV_call (t := [_, _]) (rs := []) rfl (Or.inl rfl) rfl (lk1 g218) ⟨leb rfl, leb rfl⟩) hq (fun h227 hq => ?_)
              refine V.goto (t := 99) d_Mo_sizedUnit_90 ⟨rfl, rfl⟩ ?_
              refine V.vret d_Mo_sizedUnit_99 rfl ?_
              exact V.rV hq
        · replace hq := ifn hc hq
          refine V.iconst (x := 0) d_Mo_sizedUnit_56 (by decide) ?_
          refine V.callV d_Mo_sizedUnit_57 (cV_call (t := [_]) (rs := []) rfl (Or.inl rfl) rfl (lk1 g198) ⟨leb rfl, leb rfl⟩) hq (fun h229 hq => ?_)
          refine V.aload_n d_Mo_sizedUnit_60 rfl ?_
          obtain ⟨g231, hq⟩ := hq
          refine V.get2 d_Mo_sizedUnit_61 rfl (List.mem_singleton.mpr g231) ?_
          refine V.iload_n d_Mo_sizedUnit_64 rfl ?_
          refine V.lload_n d_Mo_sizedUnit_65 rfl ?_
          obtain ⟨g232, hq⟩ := hq
          obtain ⟨g233, hq⟩ := hq
          obtain ⟨g234, hq⟩ := hq
          refine V.lastore d_Mo_sizedUnit_66 g232 g233 g234 ?_
          replace hq := hq _ rfl
          refine V.aload_n d_Mo_sizedUnit_67 rfl ?_
          refine V.get0 d_Mo_sizedUnit_68 rfl (List.mem_singleton.mpr g231) ?_
          refine V.if_le (t := 75) d_Mo_sizedUnit_71 ⟨rfl, rfl⟩ (fun hc => ?_) (fun hc => ?_)
          · replace hq := ifp hc hq
            refine V.vret d_Mo_sizedUnit_74 rfl ?_
            exact V.rV hq
          · replace hq := ifn hc hq
            refine V.iload_n d_Mo_sizedUnit_75 rfl ?_
            refine V.if_eq (t := 93) d_Mo_sizedUnit_76 ⟨rfl, rfl⟩ (fun hc => ?_) (fun hc => ?_)
            · replace hq := ifp hc hq
              refine V.aload_n d_Mo_sizedUnit_93 rfl ?_
              refine V.iload_n d_Mo_sizedUnit_94 rfl ?_
              refine V.lload_n d_Mo_sizedUnit_95 rfl ?_
              refine V.callV d_Mo_sizedUnit_96 (cV_call (t := [_, _]) (rs := []) rfl (Or.inl rfl) rfl (lk1 g231) ⟨leb rfl, leb rfl⟩) hq (fun h236 hq => ?_)
              refine V.vret d_Mo_sizedUnit_99 rfl ?_
              exact V.rV hq
            · replace hq := ifn hc hq
              refine V.aload_n d_Mo_sizedUnit_79 rfl ?_
              refine V.lload_n d_Mo_sizedUnit_80 rfl ?_
              refine V.aload_n d_Mo_sizedUnit_81 rfl ?_
              refine V.get2 d_Mo_sizedUnit_82 rfl (List.mem_singleton.mpr g231) ?_
              refine V.iload_n d_Mo_sizedUnit_85 rfl ?_
              obtain ⟨g238, hq⟩ := hq
              obtain ⟨g239, hq⟩ := hq
              refine V.iaload d_Mo_sizedUnit_86 g238 g239 ?_
              refine V.callV d_Mo_sizedUnit_87 (cV_call (t := [_, _]) (rs := []) rfl (Or.inl rfl) rfl (lk1 g231) ⟨leb rfl, leb rfl⟩) hq (fun h240 hq => ?_)
              refine V.goto (t := 99) d_Mo_sizedUnit_90 ⟨rfl, rfl⟩ ?_
              refine V.vret d_Mo_sizedUnit_99 rfl ?_
              exact V.rV hq
set_option maxRecDepth 100000 in
theorem w_Mo_floating {d : Nat} {K : Hp → Prop} {x0 : Nat} {x1 : Int32} {h0 : Hp} (hq :
  ((hS h0 x0).1 = 8 ∧ ((hS h0 (hR h0 x0 12)).1 = 20 ∧ (ainr x1 (hS h0 (hR h0 x0 12)).2 = true ∧ (if (hI h0 (hR h0 x0 12) x1.toNatClampNeg) = (102 : Int32) then (if (hI h0 x0 40) = 0 then Wp (d + 1) m_Mo_floating 86 [some (.ref x0), some (.int x1), some (.int (4 : Int32)), some (.long (0 : Int64)), none, some (.int (0 : Int32))] [] h0 (QV K) else Ca d m_Mo_take [.ref x0] h0 (QL (fun v4 h5 => (if (4 : Int32) = (4 : Int32) then (if v4 = ((v4.toInt32).toInt64) then ((hS h5 x0).1 = 8 ∧ Ca d m_Mo_wrong [.ref x0, .int (0 : Int32)] h5 (QV (fun h8 => (∀ v10 : Int32, v10 = ((4 : Int32) - (1 : Int32)) → Wp (d + 1) m_Mo_floating 57 [some (.ref x0), some (.int x1), some (.int (4 : Int32)), some (.long v4), none, some (.int v10)] [] h8 (QV K))))) else ((hS h5 x0).1 = 8 ∧ Ca d m_Mo_wrong [.ref x0, .int (1 : Int32)] h5 (QV (fun h12 => (∀ v14 : Int32, v14 = ((4 : Int32) - (1 : Int32)) → Wp (d + 1) m_Mo_floating 57 [some (.ref x0), some (.int x1), some (.int (4 : Int32)), some (.long v4), none, some (.int v14)] [] h12 (QV K)))))) else ((hS h5 x0).1 = 8 ∧ Ca d m_Mo_wrong [.ref x0, .int (0 : Int32)] h5 (QV (fun h16 => (∀ v18 : Int32, v18 = ((4 : Int32) - (1 : Int32)) → Wp (d + 1) m_Mo_floating 57 [some (.ref x0), some (.int x1), some (.int (4 : Int32)), some (.long v4), none, some (.int v18)] [] h16 (QV K))))))))) else (if (hI h0 x0 40) = 0 then Wp (d + 1) m_Mo_floating 86 [some (.ref x0), some (.int x1), some (.int (8 : Int32)), some (.long (0 : Int64)), none, some (.int (0 : Int32))] [] h0 (QV K) else Ca d m_Mo_take [.ref x0] h0 (QL (fun v19 h20 => (if (8 : Int32) = (4 : Int32) then (if v19 = ((v19.toInt32).toInt64) then ((hS h20 x0).1 = 8 ∧ Ca d m_Mo_wrong [.ref x0, .int (0 : Int32)] h20 (QV (fun h23 => (∀ v25 : Int32, v25 = ((8 : Int32) - (1 : Int32)) → Wp (d + 1) m_Mo_floating 57 [some (.ref x0), some (.int x1), some (.int (8 : Int32)), some (.long v19), none, some (.int v25)] [] h23 (QV K))))) else ((hS h20 x0).1 = 8 ∧ Ca d m_Mo_wrong [.ref x0, .int (1 : Int32)] h20 (QV (fun h27 => (∀ v29 : Int32, v29 = ((8 : Int32) - (1 : Int32)) → Wp (d + 1) m_Mo_floating 57 [some (.ref x0), some (.int x1), some (.int (8 : Int32)), some (.long v19), none, some (.int v29)] [] h27 (QV K)))))) else ((hS h20 x0).1 = 8 ∧ Ca d m_Mo_wrong [.ref x0, .int (0 : Int32)] h20 (QV (fun h31 => (∀ v33 : Int32, v33 = ((8 : Int32) - (1 : Int32)) → Wp (d + 1) m_Mo_floating 57 [some (.ref x0), some (.int x1), some (.int (8 : Int32)), some (.long v19), none, some (.int v33)] [] h31 (QV K)))))))))))))) : Ca (d + 1) m_Mo_floating [.ref x0, .int x1] h0 (QV K) := by
  show Wp _ _ 0 [some (.ref x0), some (.int x1), none, none, none, none] [] h0 _
  refine V.aload_n d_Mo_floating_0 rfl ?_
  obtain ⟨g1, hq⟩ := hq
  refine V.get2 d_Mo_floating_1 rfl (List.mem_singleton.mpr g1) ?_
  refine V.iload_n d_Mo_floating_4 rfl ?_
  obtain ⟨g2, hq⟩ := hq
  obtain ⟨g3, hq⟩ := hq
  refine V.iaload d_Mo_floating_5 g2 g3 ?_
  refine V.bipush (x := 102) d_Mo_floating_6 (by decide) ?_
  refine V.ic_ne (t := 15) d_Mo_floating_8 ⟨rfl, rfl⟩ (fun hc => ?_) (fun hc => ?_)
  · replace hq := ifp hc hq
    refine V.iconst (x := 4) d_Mo_floating_11 (by decide) ?_
    refine V.goto (t := 17) d_Mo_floating_12 ⟨rfl, rfl⟩ ?_
    refine V.istore_n (l' := [_, _, _, _, _, _]) d_Mo_floating_17 rfl (ltb rfl) ?_
    refine V.aload_n d_Mo_floating_18 rfl ?_
    refine V.get3 d_Mo_floating_19 rfl (List.mem_singleton.mpr g1) ?_
    refine V.if_eq (t := 81) d_Mo_floating_22 ⟨rfl, rfl⟩ (fun hc => ?_) (fun hc => ?_)
    · replace hq := ifp hc hq
      refine V.lconst (x := 0) d_Mo_floating_81 (by decide) ?_
      refine V.lstore_n (l' := [_, _, _, _, _, _]) d_Mo_floating_82 rfl (ltb rfl) ?_
      refine V.iconst (x := 0) d_Mo_floating_83 (by decide) ?_
      refine V.istore (l' := [_, _, _, _, _, _]) d_Mo_floating_84 rfl (ltb rfl) ?_
      exact hq
    · replace hq := ifn hc hq
      refine V.aload_n d_Mo_floating_25 rfl ?_
      refine V.callL d_Mo_floating_26 (cV_call (t := []) (rs := []) rfl (Or.inl rfl) rfl (lk1 g1) ⟨leb rfl, leb rfl⟩) hq (fun v4 h5 hq => ?_)
      refine V.lstore_n (l' := [_, _, _, _, _, _]) d_Mo_floating_29 rfl (ltb rfl) ?_
      refine V.aload_n d_Mo_floating_30 rfl ?_
      refine V.iload_n d_Mo_floating_31 rfl ?_
      refine V.iconst (x := 4) d_Mo_floating_32 (by decide) ?_
      refine V.ic_ne (t := 48) d_Mo_floating_33 ⟨rfl, rfl⟩ (fun hc => ?_) (fun hc => ?_)
      · replace hq := ifp hc hq
        refine V.lload_n d_Mo_floating_36 rfl ?_
        refine V.lload_n d_Mo_floating_37 rfl ?_
        refine V.l2i d_Mo_floating_38 ?_
        refine V.i2l d_Mo_floating_39 ?_
        refine V.lc_eq d_Mo_floating_40 d_Mo_floating_41 ⟨rfl, rfl⟩ (fun hc => ?_) (fun hc => ?_)
        · replace hq := ifp hc hq
          refine V.iconst (x := 0) d_Mo_floating_48 (by decide) ?_
          obtain ⟨g7, hq⟩ := hq
          refine V.callV d_Mo_floating_49 (cV_call (t := [_]) (rs := []) rfl (Or.inl rfl) rfl (lk1 g7) ⟨leb rfl, leb rfl⟩) hq (fun h8 hq => ?_)
          refine V.iload_n d_Mo_floating_52 rfl ?_
          refine V.iconst (x := 1) d_Mo_floating_53 (by decide) ?_
          refine V.isub d_Mo_floating_54 ?_
          replace hq := hq _ rfl
          refine V.istore (l' := [_, _, _, _, _, _]) d_Mo_floating_55 rfl (ltb rfl) ?_
          exact hq
        · replace hq := ifn hc hq
          refine V.iconst (x := 1) d_Mo_floating_44 (by decide) ?_
          refine V.goto (t := 49) d_Mo_floating_45 ⟨rfl, rfl⟩ ?_
          obtain ⟨g11, hq⟩ := hq
          refine V.callV d_Mo_floating_49 (cV_call (t := [_]) (rs := []) rfl (Or.inl rfl) rfl (lk1 g11) ⟨leb rfl, leb rfl⟩) hq (fun h12 hq => ?_)
          refine V.iload_n d_Mo_floating_52 rfl ?_
          refine V.iconst (x := 1) d_Mo_floating_53 (by decide) ?_
          refine V.isub d_Mo_floating_54 ?_
          replace hq := hq _ rfl
          refine V.istore (l' := [_, _, _, _, _, _]) d_Mo_floating_55 rfl (ltb rfl) ?_
          exact hq
      · replace hq := ifn hc hq
        refine V.iconst (x := 0) d_Mo_floating_48 (by decide) ?_
        obtain ⟨g15, hq⟩ := hq
        refine V.callV d_Mo_floating_49 (cV_call (t := [_]) (rs := []) rfl (Or.inl rfl) rfl (lk1 g15) ⟨leb rfl, leb rfl⟩) hq (fun h16 hq => ?_)
        refine V.iload_n d_Mo_floating_52 rfl ?_
        refine V.iconst (x := 1) d_Mo_floating_53 (by decide) ?_
        refine V.isub d_Mo_floating_54 ?_
        replace hq := hq _ rfl
        refine V.istore (l' := [_, _, _, _, _, _]) d_Mo_floating_55 rfl (ltb rfl) ?_
        exact hq
  · replace hq := ifn hc hq
    refine V.bipush (x := 8) d_Mo_floating_15 (by decide) ?_
    refine V.istore_n (l' := [_, _, _, _, _, _]) d_Mo_floating_17 rfl (ltb rfl) ?_
    refine V.aload_n d_Mo_floating_18 rfl ?_
    refine V.get3 d_Mo_floating_19 rfl (List.mem_singleton.mpr g1) ?_
    refine V.if_eq (t := 81) d_Mo_floating_22 ⟨rfl, rfl⟩ (fun hc => ?_) (fun hc => ?_)
    · replace hq := ifp hc hq
      refine V.lconst (x := 0) d_Mo_floating_81 (by decide) ?_
      refine V.lstore_n (l' := [_, _, _, _, _, _]) d_Mo_floating_82 rfl (ltb rfl) ?_
      refine V.iconst (x := 0) d_Mo_floating_83 (by decide) ?_
      refine V.istore (l' := [_, _, _, _, _, _]) d_Mo_floating_84 rfl (ltb rfl) ?_
      exact hq
    · replace hq := ifn hc hq
      refine V.aload_n d_Mo_floating_25 rfl ?_
      refine V.callL d_Mo_floating_26 (cV_call (t := []) (rs := []) rfl (Or.inl rfl) rfl (lk1 g1) ⟨leb rfl, leb rfl⟩) hq (fun v19 h20 hq => ?_)
      refine V.lstore_n (l' := [_, _, _, _, _, _]) d_Mo_floating_29 rfl (ltb rfl) ?_
      refine V.aload_n d_Mo_floating_30 rfl ?_
      refine V.iload_n d_Mo_floating_31 rfl ?_
      refine V.iconst (x := 4) d_Mo_floating_32 (by decide) ?_
      refine V.ic_ne (t := 48) d_Mo_floating_33 ⟨rfl, rfl⟩ (fun hc => ?_) (fun hc => ?_)
      · replace hq := ifp hc hq
        refine V.lload_n d_Mo_floating_36 rfl ?_
        refine V.lload_n d_Mo_floating_37 rfl ?_
        refine V.l2i d_Mo_floating_38 ?_
        refine V.i2l d_Mo_floating_39 ?_
        refine V.lc_eq d_Mo_floating_40 d_Mo_floating_41 ⟨rfl, rfl⟩ (fun hc => ?_) (fun hc => ?_)
        · replace hq := ifp hc hq
          refine V.iconst (x := 0) d_Mo_floating_48 (by decide) ?_
          obtain ⟨g22, hq⟩ := hq
          refine V.callV d_Mo_floating_49 (cV_call (t := [_]) (rs := []) rfl (Or.inl rfl) rfl (lk1 g22) ⟨leb rfl, leb rfl⟩) hq (fun h23 hq => ?_)
          refine V.iload_n d_Mo_floating_52 rfl ?_
          refine V.iconst (x := 1) d_Mo_floating_53 (by decide) ?_
          refine V.isub d_Mo_floating_54 ?_
          replace hq := hq _ rfl
          refine V.istore (l' := [_, _, _, _, _, _]) d_Mo_floating_55 rfl (ltb rfl) ?_
          exact hq
        · replace hq := ifn hc hq
          refine V.iconst (x := 1) d_Mo_floating_44 (by decide) ?_
          refine V.goto (t := 49) d_Mo_floating_45 ⟨rfl, rfl⟩ ?_
          obtain ⟨g26, hq⟩ := hq
          refine V.callV d_Mo_floating_49 (cV_call (t := [_]) (rs := []) rfl (Or.inl rfl) rfl (lk1 g26) ⟨leb rfl, leb rfl⟩) hq (fun h27 hq => ?_)
          refine V.iload_n d_Mo_floating_52 rfl ?_
          refine V.iconst (x := 1) d_Mo_floating_53 (by decide) ?_
          refine V.isub d_Mo_floating_54 ?_
          replace hq := hq _ rfl
          refine V.istore (l' := [_, _, _, _, _, _]) d_Mo_floating_55 rfl (ltb rfl) ?_
          exact hq
      · replace hq := ifn hc hq
        refine V.iconst (x := 0) d_Mo_floating_48 (by decide) ?_
        obtain ⟨g30, hq⟩ := hq
        refine V.callV d_Mo_floating_49 (cV_call (t := [_]) (rs := []) rfl (Or.inl rfl) rfl (lk1 g30) ⟨leb rfl, leb rfl⟩) hq (fun h31 hq => ?_)
        refine V.iload_n d_Mo_floating_52 rfl ?_
        refine V.iconst (x := 1) d_Mo_floating_53 (by decide) ?_
        refine V.isub d_Mo_floating_54 ?_
        replace hq := hq _ rfl
        refine V.istore (l' := [_, _, _, _, _, _]) d_Mo_floating_55 rfl (ltb rfl) ?_
        exact hq
theorem w_Mo_floating_86 {d : Nat} {K : Hp → Prop} {x0 : Nat} {y1 : Option Value} {x2 : Int32} {x3 : Int64} {x5 : Int32} {h0 : Hp} (hq :
  (if x5 < x2 then ((hS h0 x0).1 = 8 ∧ Ca d m_Mo_nextByte [.ref x0] h0 (QI (fun v35 h36 => (∀ v38 : Int64, v38 = ((x3 <<< ((8 : Int32).toInt64 &&& 63)) ||| (v35.toInt64)) → (∀ v39 : Int32, v39 = (x5 + 1) → Wp (d + 1) m_Mo_floating 86 [some (.ref x0), y1, some (.int x2), some (.long v38), none, some (.int v39)] [] h36 (QV K)))))) else (if x2 = (4 : Int32) then ((hS h0 x0).1 = 8 ∧ Ca d m_Mo_give [.ref x0, .long ((x3.toInt32).toInt64)] h0 (QV (fun h41 => K h41))) else ((hS h0 x0).1 = 8 ∧ Ca d m_Mo_give [.ref x0, .long x3] h0 (QV (fun h44 => K h44)))))) : Wp (d + 1) m_Mo_floating 86 [some (.ref x0), y1, some (.int x2), some (.long x3), none, some (.int x5)] [] h0 (QV K) := by
  refine V.iload d_Mo_floating_86 rfl ?_
  refine V.iload_n d_Mo_floating_88 rfl ?_
  refine V.ic_ge (t := 109) d_Mo_floating_89 ⟨rfl, rfl⟩ (fun hc => ?_) (fun hc => ?_)
  · replace hq := ifp hc hq
    refine V.lload_n d_Mo_floating_92 rfl ?_
    refine V.bipush (x := 8) d_Mo_floating_93 (by decide) ?_
    refine V.lshl d_Mo_floating_95 ?_
    refine V.aload_n d_Mo_floating_96 rfl ?_
    obtain ⟨g34, hq⟩ := hq
    refine V.callI d_Mo_floating_97 (cV_call (t := []) (rs := [_]) rfl (Or.inl rfl) rfl (lk1 g34) ⟨leb rfl, leb rfl⟩) hq (fun v35 h36 hq => ?_)
    refine V.i2l d_Mo_floating_100 ?_
    refine V.lor d_Mo_floating_101 ?_
    replace hq := hq _ rfl
    refine V.lstore_n (l' := [_, _, _, _, _, _]) d_Mo_floating_102 rfl (ltb rfl) ?_
    replace hq := hq _ rfl
    refine V.iinc (l' := [_, _, _, _, _, _]) d_Mo_floating_103 rfl (show _ + _ = _ + (1 : Int32) from rfl) rfl ?_
    refine V.goto (t := 86) d_Mo_floating_106 ⟨rfl, rfl⟩ ?_
    exact hq
  · replace hq := ifn hc hq
    refine V.aload_n d_Mo_floating_109 rfl ?_
    refine V.iload_n d_Mo_floating_110 rfl ?_
    refine V.iconst (x := 4) d_Mo_floating_111 (by decide) ?_
    refine V.ic_ne (t := 121) d_Mo_floating_112 ⟨rfl, rfl⟩ (fun hc => ?_) (fun hc => ?_)
    · replace hq := ifp hc hq
      refine V.lload_n d_Mo_floating_115 rfl ?_
      refine V.l2i d_Mo_floating_116 ?_
      refine V.i2l d_Mo_floating_117 ?_
      refine V.goto (t := 122) d_Mo_floating_118 ⟨rfl, rfl⟩ ?_
      obtain ⟨g40, hq⟩ := hq
      refine V.callV d_Mo_floating_122 (cV_call (t := [_]) (rs := []) rfl (Or.inl rfl) rfl (lk1 g40) ⟨leb rfl, leb rfl⟩) hq (fun h41 hq => ?_)
      refine V.vret d_Mo_floating_125 rfl ?_
      exact V.rV hq
    · replace hq := ifn hc hq
      refine V.lload_n d_Mo_floating_121 rfl ?_
      obtain ⟨g43, hq⟩ := hq
      refine V.callV d_Mo_floating_122 (cV_call (t := [_]) (rs := []) rfl (Or.inl rfl) rfl (lk1 g43) ⟨leb rfl, leb rfl⟩) hq (fun h44 hq => ?_)
      refine V.vret d_Mo_floating_125 rfl ?_
      exact V.rV hq
theorem w_Mo_floating_57 {d : Nat} {K : Hp → Prop} {x0 : Nat} {y1 : Option Value} {y2 : Option Value} {x3 : Int64} {x5 : Int32} {h0 : Hp} (hq :
  (if x5 < 0 then K h0 else ((hS h0 x0).1 = 8 ∧ Ca d m_Mo_putByte [.ref x0, .int ((x3 >>> (((8 : Int32) * x5).toInt64 &&& 63)).toInt32)] h0 (QV (fun h47 => (∀ v49 : Int32, v49 = (x5 + (-1)) → Wp (d + 1) m_Mo_floating 57 [some (.ref x0), y1, y2, some (.long x3), none, some (.int v49)] [] h47 (QV K))))))) : Wp (d + 1) m_Mo_floating 57 [some (.ref x0), y1, y2, some (.long x3), none, some (.int x5)] [] h0 (QV K) := by
  refine V.iload d_Mo_floating_57 rfl ?_
  refine V.if_lt (t := 80) d_Mo_floating_59 ⟨rfl, rfl⟩ (fun hc => ?_) (fun hc => ?_)
  · replace hq := ifp hc hq
    refine V.vret d_Mo_floating_80 rfl ?_
    exact V.rV hq
  · replace hq := ifn hc hq
    refine V.aload_n d_Mo_floating_62 rfl ?_
    refine V.lload_n d_Mo_floating_63 rfl ?_
    refine V.bipush (x := 8) d_Mo_floating_64 (by decide) ?_
    refine V.iload d_Mo_floating_66 rfl ?_
    refine V.imul d_Mo_floating_68 ?_
    refine V.lshr d_Mo_floating_69 ?_
    refine V.l2i d_Mo_floating_70 ?_
    obtain ⟨g46, hq⟩ := hq
    refine V.callV d_Mo_floating_71 (cV_call (t := [_]) (rs := []) rfl (Or.inl rfl) rfl (lk1 g46) ⟨leb rfl, leb rfl⟩) hq (fun h47 hq => ?_)
    replace hq := hq _ rfl
    refine V.iinc (l' := [_, _, _, _, _, _]) d_Mo_floating_74 rfl (show _ + _ = _ + (-1 : Int32) from rfl) rfl ?_
    refine V.goto (t := 57) d_Mo_floating_77 ⟨rfl, rfl⟩ ?_
    exact hq
theorem w_Mo_words {d : Nat} {K : Hp → Prop} {x0 : Nat} {x1 : Int32} {h0 : Hp} (hq :
  (if x1 = 0 then ((hS h0 x0).1 = 8 ∧ (∀ v2 : Int32, v2 = ((hI h0 x0 7) - (hI h0 x0 42)) → Wp (d + 1) m_Mo_words 98 [some (.ref x0), some (.int x1), some (.int v2), none] [] h0 (QV K))) else Wp (d + 1) m_Mo_words 6 [some (.ref x0), some (.int x1), some (.int (0 : Int32)), none] [] h0 (QV K))) : Ca (d + 1) m_Mo_words [.ref x0, .int x1] h0 (QV K) := by
  show Wp _ _ 0 [some (.ref x0), some (.int x1), none, none] [] h0 _
  refine V.iconst (x := 0) d_Mo_words_0 (by decide) ?_
  refine V.istore_n (l' := [_, _, _, _]) d_Mo_words_1 rfl (ltb rfl) ?_
  refine V.iload_n d_Mo_words_2 rfl ?_
  refine V.if_eq (t := 88) d_Mo_words_3 ⟨rfl, rfl⟩ (fun hc => ?_) (fun hc => ?_)
  · replace hq := ifp hc hq
    refine V.aload_n d_Mo_words_88 rfl ?_
    obtain ⟨g1, hq⟩ := hq
    refine V.get0 d_Mo_words_89 rfl (List.mem_singleton.mpr g1) ?_
    refine V.aload_n d_Mo_words_92 rfl ?_
    refine V.get0 d_Mo_words_93 rfl (List.mem_singleton.mpr g1) ?_
    refine V.isub d_Mo_words_96 ?_
    replace hq := hq _ rfl
    refine V.istore_n (l' := [_, _, _, _]) d_Mo_words_97 rfl (ltb rfl) ?_
    exact hq
  · replace hq := ifn hc hq
    exact hq
theorem w_Mo_words_98 {d : Nat} {K : Hp → Prop} {x0 : Nat} {x1 : Int32} {x2 : Int32} {y3 : Option Value} {h0 : Hp} (hq :
  ((hS h0 x0).1 = 8 ∧ Ca d m_Mo_give [.ref x0, .long (x2.toInt64)] h0 (QV (fun h4 => Wp (d + 1) m_Mo_words 106 [some (.ref x0), some (.int x1), some (.int x2), some (.int (0 : Int32))] [] h4 (QV K))))) : Wp (d + 1) m_Mo_words 98 [some (.ref x0), some (.int x1), some (.int x2), y3] [] h0 (QV K) := by
  refine V.aload_n d_Mo_words_98 rfl ?_
  refine V.iload_n d_Mo_words_99 rfl ?_
  refine V.i2l d_Mo_words_100 ?_
  obtain ⟨g3, hq⟩ := hq
  refine V.callV d_Mo_words_101 (cV_call (t := [_]) (rs := []) rfl (Or.inl rfl) rfl (lk1 g3) ⟨leb rfl, leb rfl⟩) hq (fun h4 hq => ?_)
  refine V.iconst (x := 0) d_Mo_words_104 (by decide) ?_
  refine V.istore_n (l' := [_, _, _, _]) d_Mo_words_105 rfl (ltb rfl) ?_
  exact hq
theorem w_Mo_words_6 {d : Nat} {K : Hp → Prop} {x0 : Nat} {x1 : Int32} {x2 : Int32} {y3 : Option Value} {h0 : Hp} (hq :
  ((hS h0 x0).1 = 8 ∧ (if ((hI h0 x0 42) + x2) < (hI h0 x0 7) then ((hS h0 (hR h0 x0 6)).1 = 20 ∧ (ainr ((hI h0 x0 42) + x2) (hS h0 (hR h0 x0 6)).2 = true ∧ (if (hI h0 (hR h0 x0 6) ((hI h0 x0 42) + x2).toNatClampNeg) = 0 then Wp (d + 1) m_Mo_words 45 [some (.ref x0), some (.int x1), some (.int x2), y3] [] h0 (QV K) else (if x2 < (21 : Int32) then (∀ v9 : Int32, v9 = (x2 + 1) → Wp (d + 1) m_Mo_words 6 [some (.ref x0), some (.int x1), some (.int v9), y3] [] h0 (QV K)) else Wp (d + 1) m_Mo_words 45 [some (.ref x0), some (.int x1), some (.int x2), y3] [] h0 (QV K))))) else Wp (d + 1) m_Mo_words 45 [some (.ref x0), some (.int x1), some (.int x2), y3] [] h0 (QV K)))) : Wp (d + 1) m_Mo_words 6 [some (.ref x0), some (.int x1), some (.int x2), y3] [] h0 (QV K) := by
  refine V.aload_n d_Mo_words_6 rfl ?_
  obtain ⟨g6, hq⟩ := hq
  refine V.get0 d_Mo_words_7 rfl (List.mem_singleton.mpr g6) ?_
  refine V.iload_n d_Mo_words_10 rfl ?_
  refine V.iadd d_Mo_words_11 ?_
  refine V.aload_n d_Mo_words_12 rfl ?_
  refine V.get0 d_Mo_words_13 rfl (List.mem_singleton.mpr g6) ?_
  refine V.ic_ge (t := 45) d_Mo_words_16 ⟨rfl, rfl⟩ (fun hc => ?_) (fun hc => ?_)
  · replace hq := ifp hc hq
    refine V.aload_n d_Mo_words_19 rfl ?_
    refine V.get2 d_Mo_words_20 rfl (List.mem_singleton.mpr g6) ?_
    refine V.aload_n d_Mo_words_23 rfl ?_
    refine V.get0 d_Mo_words_24 rfl (List.mem_singleton.mpr g6) ?_
    refine V.iload_n d_Mo_words_27 rfl ?_
    refine V.iadd d_Mo_words_28 ?_
    obtain ⟨g7, hq⟩ := hq
    obtain ⟨g8, hq⟩ := hq
    refine V.iaload d_Mo_words_29 g7 g8 ?_
    refine V.if_eq (t := 45) d_Mo_words_30 ⟨rfl, rfl⟩ (fun hc => ?_) (fun hc => ?_)
    · replace hq := ifp hc hq
      exact hq
    · replace hq := ifn hc hq
      refine V.iload_n d_Mo_words_33 rfl ?_
      refine V.bipush (x := 21) d_Mo_words_34 (by decide) ?_
      refine V.ic_ge (t := 45) d_Mo_words_36 ⟨rfl, rfl⟩ (fun hc => ?_) (fun hc => ?_)
      · replace hq := ifp hc hq
        replace hq := hq _ rfl
        refine V.iinc (l' := [_, _, _, _]) d_Mo_words_39 rfl (show _ + _ = _ + (1 : Int32) from rfl) rfl ?_
        refine V.goto (t := 6) d_Mo_words_42 ⟨rfl, rfl⟩ ?_
        exact hq
      · replace hq := ifn hc hq
        exact hq
  · replace hq := ifn hc hq
    exact hq
theorem w_Mo_words_106 {d : Nat} {K : Hp → Prop} {x0 : Nat} {x1 : Int32} {x2 : Int32} {x3 : Int32} {h0 : Hp} (hq :
  (if x3 < x2 then ((hS h0 x0).1 = 8 ∧ Ca d m_Mo_nextByte [.ref x0] h0 (QI (fun v11 h12 => ((hS h12 x0).1 = 8 ∧ Ca d m_Mo_give [.ref x0, .long (v11.toInt64)] h12 (QV (fun h15 => (∀ v17 : Int32, v17 = (x3 + 1) → Wp (d + 1) m_Mo_words 106 [some (.ref x0), some (.int x1), some (.int x2), some (.int v17)] [] h15 (QV K)))))))) else (if x1 = 0 then K h0 else ((hS h0 x0).1 = 8 ∧ Ca d m_Mo_nextByte [.ref x0] h0 (QI (fun v19 h20 => K h20)))))) : Wp (d + 1) m_Mo_words 106 [some (.ref x0), some (.int x1), some (.int x2), some (.int x3)] [] h0 (QV K) := by
  refine V.iload_n d_Mo_words_106 rfl ?_
  refine V.iload_n d_Mo_words_107 rfl ?_
  refine V.ic_ge (t := 126) d_Mo_words_108 ⟨rfl, rfl⟩ (fun hc => ?_) (fun hc => ?_)
  · replace hq := ifp hc hq
    refine V.aload_n d_Mo_words_111 rfl ?_
    refine V.aload_n d_Mo_words_112 rfl ?_
    obtain ⟨g10, hq⟩ := hq
    refine V.callI d_Mo_words_113 (cV_call (t := []) (rs := [_]) rfl (Or.inl rfl) rfl (lk1 g10) ⟨leb rfl, leb rfl⟩) hq (fun v11 h12 hq => ?_)
    refine V.i2l d_Mo_words_116 ?_
    obtain ⟨g14, hq⟩ := hq
    refine V.callV d_Mo_words_117 (cV_call (t := [_]) (rs := []) rfl (Or.inl rfl) rfl (lk1 g14) ⟨leb rfl, leb rfl⟩) hq (fun h15 hq => ?_)
    replace hq := hq _ rfl
    refine V.iinc (l' := [_, _, _, _]) d_Mo_words_120 rfl (show _ + _ = _ + (1 : Int32) from rfl) rfl ?_
    refine V.goto (t := 106) d_Mo_words_123 ⟨rfl, rfl⟩ ?_
    exact hq
  · replace hq := ifn hc hq
    refine V.iload_n d_Mo_words_126 rfl ?_
    refine V.if_eq (t := 135) d_Mo_words_127 ⟨rfl, rfl⟩ (fun hc => ?_) (fun hc => ?_)
    · replace hq := ifp hc hq
      refine V.vret d_Mo_words_135 rfl ?_
      exact V.rV hq
    · replace hq := ifn hc hq
      refine V.aload_n d_Mo_words_130 rfl ?_
      obtain ⟨g18, hq⟩ := hq
      refine V.callI d_Mo_words_131 (cV_call (t := []) (rs := []) rfl (Or.inl rfl) rfl (lk1 g18) ⟨leb rfl, leb rfl⟩) hq (fun v19 h20 hq => ?_)
      refine V.istore_n (l' := [_, _, _, _]) d_Mo_words_134 rfl (ltb rfl) ?_
      refine V.vret d_Mo_words_135 rfl ?_
      exact V.rV hq
theorem w_Mo_words_45 {d : Nat} {K : Hp → Prop} {x0 : Nat} {x1 : Int32} {x2 : Int32} {y3 : Option Value} {h0 : Hp} (hq :
  (if (20 : Int32) < x2 then ((hS h0 x0).1 = 8 ∧ Ca d m_Mo_wrong [.ref x0, .int (1 : Int32)] h0 (QV (fun h23 => ((hS h23 x0).1 = 8 ∧ (if (hI h23 x0 41) = 0 then (if ((hI h23 x0 42) + x2) < (hI h23 x0 7) then Wp (d + 1) m_Mo_words 98 [some (.ref x0), some (.int x1), some (.int x2), y3] [] h23 (QV K) else (∀ h26 : Hp, h26 = sI h23 x0 41 (2 : Int32) → Wp (d + 1) m_Mo_words 98 [some (.ref x0), some (.int x1), some (.int x2), y3] [] h26 (QV K))) else Wp (d + 1) m_Mo_words 98 [some (.ref x0), some (.int x1), some (.int x2), y3] [] h23 (QV K)))))) else ((hS h0 x0).1 = 8 ∧ Ca d m_Mo_wrong [.ref x0, .int (0 : Int32)] h0 (QV (fun h28 => ((hS h28 x0).1 = 8 ∧ (if (hI h28 x0 41) = 0 then (if ((hI h28 x0 42) + x2) < (hI h28 x0 7) then Wp (d + 1) m_Mo_words 98 [some (.ref x0), some (.int x1), some (.int x2), y3] [] h28 (QV K) else (∀ h31 : Hp, h31 = sI h28 x0 41 (2 : Int32) → Wp (d + 1) m_Mo_words 98 [some (.ref x0), some (.int x1), some (.int x2), y3] [] h31 (QV K))) else Wp (d + 1) m_Mo_words 98 [some (.ref x0), some (.int x1), some (.int x2), y3] [] h28 (QV K)))))))) : Wp (d + 1) m_Mo_words 45 [some (.ref x0), some (.int x1), some (.int x2), y3] [] h0 (QV K) := by
  refine V.aload_n d_Mo_words_45 rfl ?_
  refine V.iload_n d_Mo_words_46 rfl ?_
  refine V.bipush (x := 20) d_Mo_words_47 (by decide) ?_
  refine V.ic_le (t := 56) d_Mo_words_49 ⟨rfl, rfl⟩ (fun hc => ?_) (fun hc => ?_)
  · replace hq := ifp hc hq
    refine V.iconst (x := 1) d_Mo_words_52 (by decide) ?_
    refine V.goto (t := 57) d_Mo_words_53 ⟨rfl, rfl⟩ ?_
    obtain ⟨g22, hq⟩ := hq
    refine V.callV d_Mo_words_57 (cV_call (t := [_]) (rs := []) rfl (Or.inl rfl) rfl (lk1 g22) ⟨leb rfl, leb rfl⟩) hq (fun h23 hq => ?_)
    refine V.aload_n d_Mo_words_60 rfl ?_
    obtain ⟨g25, hq⟩ := hq
    refine V.get0 d_Mo_words_61 rfl (List.mem_singleton.mpr g25) ?_
    refine V.if_ne (t := 98) d_Mo_words_64 ⟨rfl, rfl⟩ (fun hc => ?_) (fun hc => ?_)
    · replace hq := ifp hc hq
      refine V.aload_n d_Mo_words_67 rfl ?_
      refine V.get0 d_Mo_words_68 rfl (List.mem_singleton.mpr g25) ?_
      refine V.iload_n d_Mo_words_71 rfl ?_
      refine V.iadd d_Mo_words_72 ?_
      refine V.aload_n d_Mo_words_73 rfl ?_
      refine V.get0 d_Mo_words_74 rfl (List.mem_singleton.mpr g25) ?_
      refine V.ic_lt (t := 98) d_Mo_words_77 ⟨rfl, rfl⟩ (fun hc => ?_) (fun hc => ?_)
      · replace hq := ifp hc hq
        exact hq
      · replace hq := ifn hc hq
        refine V.aload_n d_Mo_words_80 rfl ?_
        refine V.iconst (x := 2) d_Mo_words_81 (by decide) ?_
        refine V.put0 d_Mo_words_82 rfl (Or.inl rfl) (List.mem_singleton.mpr g25) ?_
        replace hq := hq _ rfl
        refine V.goto (t := 98) d_Mo_words_85 ⟨rfl, rfl⟩ ?_
        exact hq
    · replace hq := ifn hc hq
      exact hq
  · replace hq := ifn hc hq
    refine V.iconst (x := 0) d_Mo_words_56 (by decide) ?_
    obtain ⟨g27, hq⟩ := hq
    refine V.callV d_Mo_words_57 (cV_call (t := [_]) (rs := []) rfl (Or.inl rfl) rfl (lk1 g27) ⟨leb rfl, leb rfl⟩) hq (fun h28 hq => ?_)
    refine V.aload_n d_Mo_words_60 rfl ?_
    obtain ⟨g30, hq⟩ := hq
    refine V.get0 d_Mo_words_61 rfl (List.mem_singleton.mpr g30) ?_
    refine V.if_ne (t := 98) d_Mo_words_64 ⟨rfl, rfl⟩ (fun hc => ?_) (fun hc => ?_)
    · replace hq := ifp hc hq
      refine V.aload_n d_Mo_words_67 rfl ?_
      refine V.get0 d_Mo_words_68 rfl (List.mem_singleton.mpr g30) ?_
      refine V.iload_n d_Mo_words_71 rfl ?_
      refine V.iadd d_Mo_words_72 ?_
      refine V.aload_n d_Mo_words_73 rfl ?_
      refine V.get0 d_Mo_words_74 rfl (List.mem_singleton.mpr g30) ?_
      refine V.ic_lt (t := 98) d_Mo_words_77 ⟨rfl, rfl⟩ (fun hc => ?_) (fun hc => ?_)
      · replace hq := ifp hc hq
        exact hq
      · replace hq := ifn hc hq
        refine V.aload_n d_Mo_words_80 rfl ?_
        refine V.iconst (x := 2) d_Mo_words_81 (by decide) ?_
        refine V.put0 d_Mo_words_82 rfl (Or.inl rfl) (List.mem_singleton.mpr g30) ?_
        replace hq := hq _ rfl
        refine V.goto (t := 98) d_Mo_words_85 ⟨rfl, rfl⟩ ?_
        exact hq
    · replace hq := ifn hc hq
      exact hq
