theorem w_La_type {d : Nat} {K : Int32 → Hp → Prop} {x0 : Nat} {x1 : Int64} {x3 : Nat} {h0 : Hp} (hq :
  ((hS h0 x0).1 = 7 ∧ Ca d m_Ff_type [.ref x0, .long x1] h0 (QIx (fun v2 h3 => ((hS h3 x3).1 = 21 ∧ (¬ x3 = 1 ∧ (ainr (0 : Int32) (hS h3 x3).2 = true ∧ (∀ h8 : Hp, h8 = sL h3 x3 (0 : Int32).toNatClampNeg (v2.toInt64) → K (0 : Int32) h8))))) (fun x9 h10 => (if (hS h10 x9).1 = 9 then K (1 : Int32) h10 else (if (hS h10 x9).1 = 10 then K (2 : Int32) h10 else False)))))) : Ca (d + 1) m_La_type [.ref x0, .long x1, .ref x3] h0 (QI K) := by
  show Wp _ _ 0 [some (.ref x0), some (.long x1), none, some (.ref x3), none] [] h0 _
  refine V.aload_n d_La_type_0 rfl ?_
  refine V.iconst (x := 0) d_La_type_1 (by decide) ?_
  refine V.aload_n d_La_type_2 rfl ?_
  refine V.lload_n d_La_type_3 rfl ?_
  obtain ⟨g1, hq⟩ := hq
  refine V.callIx d_La_type_4 (cV_call (t := [_]) (rs := [_, _]) rfl (Or.inl rfl) rfl (lk1 g1) ⟨leb rfl, leb rfl⟩) hq (fun v2 h3 hq => ?_) (fun xx h_ hq => ?_)
  · refine V.i2l d_La_type_7 ?_
    obtain ⟨g5, hq⟩ := hq
    obtain ⟨g6, hq⟩ := hq
    obtain ⟨g7, hq⟩ := hq
    refine V.lastore d_La_type_8 g5 g6 g7 ?_
    replace hq := hq _ rfl
    refine V.goto (t := 20) d_La_type_9 ⟨rfl, rfl⟩ ?_
    refine V.iconst (x := 0) d_La_type_20 (by decide) ?_
    refine V.iret d_La_type_21 rfl ?_
    exact V.rI hq
  · by_cases hc : (hS h_ xx).1 = 9
    · replace hq := ifp hc hq
      refine Or.inl ⟨12, by rw [hc]; rfl, ?_⟩
      refine V.astore (l' := [_, _, _, _, _]) d_La_type_12 rfl (ltb rfl) ?_
      refine V.iconst (x := 1) d_La_type_14 (by decide) ?_
      refine V.iret d_La_type_15 rfl ?_
      exact V.rI hq
    · replace hq := ifn hc hq
      by_cases hc : (hS h_ xx).1 = 10
      · replace hq := ifp hc hq
        refine Or.inl ⟨16, by rw [hc]; rfl, ?_⟩
        refine V.astore (l' := [_, _, _, _, _]) d_La_type_16 rfl (ltb rfl) ?_
        refine V.iconst (x := 2) d_La_type_18 (by decide) ?_
        refine V.iret d_La_type_19 rfl ?_
        exact V.rI hq
      · replace hq := ifn hc hq
        cases hq
theorem w_La_compile {d : Nat} {K : Int32 → Hp → Prop} {x0 : Nat} {x1 : Nat} {h0 : Hp} (hq :
  ((hS h0 x0).1 = 7 ∧ Ca d m_Ff_compile [.ref x0] h0 (QIx (fun v2 h3 => ((hS h3 x1).1 = 21 ∧ (¬ x1 = 1 ∧ (ainr (0 : Int32) (hS h3 x1).2 = true ∧ (∀ h8 : Hp, h8 = sL h3 x1 (0 : Int32).toNatClampNeg (v2.toInt64) → K (0 : Int32) h8))))) (fun x9 h10 => (if (hS h10 x9).1 = 12 then K (1 : Int32) h10 else (if (hS h10 x9).1 = 10 then K (2 : Int32) h10 else False)))))) : Ca (d + 1) m_La_compile [.ref x0, .ref x1] h0 (QI K) := by
  show Wp _ _ 0 [some (.ref x0), some (.ref x1), none] [] h0 _
  refine V.aload_n d_La_compile_0 rfl ?_
  refine V.iconst (x := 0) d_La_compile_1 (by decide) ?_
  refine V.aload_n d_La_compile_2 rfl ?_
  obtain ⟨g1, hq⟩ := hq
  refine V.callIx d_La_compile_3 (cV_call (t := []) (rs := [_, _]) rfl (Or.inl rfl) rfl (lk1 g1) ⟨leb rfl, leb rfl⟩) hq (fun v2 h3 hq => ?_) (fun xx h_ hq => ?_)
  · refine V.i2l d_La_compile_6 ?_
    obtain ⟨g5, hq⟩ := hq
    obtain ⟨g6, hq⟩ := hq
    obtain ⟨g7, hq⟩ := hq
    refine V.lastore d_La_compile_7 g5 g6 g7 ?_
    replace hq := hq _ rfl
    refine V.goto (t := 17) d_La_compile_8 ⟨rfl, rfl⟩ ?_
    refine V.iconst (x := 0) d_La_compile_17 (by decide) ?_
    refine V.iret d_La_compile_18 rfl ?_
    exact V.rI hq
  · by_cases hc : (hS h_ xx).1 = 12
    · replace hq := ifp hc hq
      refine Or.inl ⟨11, by rw [hc]; rfl, ?_⟩
      refine V.astore_n (l' := [_, _, _]) d_La_compile_11 rfl (ltb rfl) ?_
      refine V.iconst (x := 1) d_La_compile_12 (by decide) ?_
      refine V.iret d_La_compile_13 rfl ?_
      exact V.rI hq
    · replace hq := ifn hc hq
      by_cases hc : (hS h_ xx).1 = 10
      · replace hq := ifp hc hq
        refine Or.inl ⟨14, by rw [hc]; rfl, ?_⟩
        refine V.astore_n (l' := [_, _, _]) d_La_compile_14 rfl (ltb rfl) ?_
        refine V.iconst (x := 2) d_La_compile_15 (by decide) ?_
        refine V.iret d_La_compile_16 rfl ?_
        exact V.rI hq
      · replace hq := ifn hc hq
        cases hq
theorem w_La_size {d : Nat} {K : Int32 → Hp → Prop} {x0 : Nat} {x1 : Int32} {x2 : Nat} {h0 : Hp} (hq :
  ((hS h0 x0).1 = 7 ∧ Ca d m_Ff_size [.ref x0, .int x1] h0 (QIx (fun v2 h3 => ((hS h3 x2).1 = 21 ∧ (¬ x2 = 1 ∧ (ainr (0 : Int32) (hS h3 x2).2 = true ∧ (∀ h8 : Hp, h8 = sL h3 x2 (0 : Int32).toNatClampNeg (v2.toInt64) → K (0 : Int32) h8))))) (fun x9 h10 => (if (hS h10 x9).1 = 13 then K (1 : Int32) h10 else False))))) : Ca (d + 1) m_La_size [.ref x0, .int x1, .ref x2] h0 (QI K) := by
  show Wp _ _ 0 [some (.ref x0), some (.int x1), some (.ref x2), none] [] h0 _
  refine V.aload_n d_La_size_0 rfl ?_
  refine V.iconst (x := 0) d_La_size_1 (by decide) ?_
  refine V.aload_n d_La_size_2 rfl ?_
  refine V.iload_n d_La_size_3 rfl ?_
  obtain ⟨g1, hq⟩ := hq
  refine V.callIx d_La_size_4 (cV_call (t := [_]) (rs := [_, _]) rfl (Or.inl rfl) rfl (lk1 g1) ⟨leb rfl, leb rfl⟩) hq (fun v2 h3 hq => ?_) (fun xx h_ hq => ?_)
  · refine V.i2l d_La_size_7 ?_
    obtain ⟨g5, hq⟩ := hq
    obtain ⟨g6, hq⟩ := hq
    obtain ⟨g7, hq⟩ := hq
    refine V.lastore d_La_size_8 g5 g6 g7 ?_
    replace hq := hq _ rfl
    refine V.goto (t := 15) d_La_size_9 ⟨rfl, rfl⟩ ?_
    refine V.iconst (x := 0) d_La_size_15 (by decide) ?_
    refine V.iret d_La_size_16 rfl ?_
    exact V.rI hq
  · by_cases hc : (hS h_ xx).1 = 13
    · replace hq := ifp hc hq
      refine Or.inl ⟨12, by rw [hc]; rfl, ?_⟩
      refine V.astore_n (l' := [_, _, _, _]) d_La_size_12 rfl (ltb rfl) ?_
      refine V.iconst (x := 1) d_La_size_13 (by decide) ?_
      refine V.iret d_La_size_14 rfl ?_
      exact V.rI hq
    · replace hq := ifn hc hq
      cases hq
theorem w_La_put {d : Nat} {K : Int32 → Hp → Prop} {x0 : Nat} {x1 : Int64} {x3 : Int32} {x4 : Nat} {h0 : Hp} (hq :
  ((hS h0 x0).1 = 7 ∧ Ca d m_Ff_put [.ref x0, .long x1, .int x3] h0 (QIx (fun v2 h3 => ((hS h3 x4).1 = 21 ∧ (¬ x4 = 1 ∧ (ainr (0 : Int32) (hS h3 x4).2 = true ∧ (∀ h8 : Hp, h8 = sL h3 x4 (0 : Int32).toNatClampNeg (v2.toInt64) → K (0 : Int32) h8))))) (fun x9 h10 => (if (hS h10 x9).1 = 9 then K (1 : Int32) h10 else (if (hS h10 x9).1 = 10 then K (2 : Int32) h10 else False)))))) : Ca (d + 1) m_La_put [.ref x0, .long x1, .int x3, .ref x4] h0 (QI K) := by
  show Wp _ _ 0 [some (.ref x0), some (.long x1), none, some (.int x3), some (.ref x4), none] [] h0 _
  refine V.aload d_La_put_0 rfl ?_
  refine V.iconst (x := 0) d_La_put_2 (by decide) ?_
  refine V.aload_n d_La_put_3 rfl ?_
  refine V.lload_n d_La_put_4 rfl ?_
  refine V.iload_n d_La_put_5 rfl ?_
  obtain ⟨g1, hq⟩ := hq
  refine V.callIx d_La_put_6 (cV_call (t := [_, _]) (rs := [_, _]) rfl (Or.inl rfl) rfl (lk1 g1) ⟨leb rfl, leb rfl⟩) hq (fun v2 h3 hq => ?_) (fun xx h_ hq => ?_)
  · refine V.i2l d_La_put_9 ?_
    obtain ⟨g5, hq⟩ := hq
    obtain ⟨g6, hq⟩ := hq
    obtain ⟨g7, hq⟩ := hq
    refine V.lastore d_La_put_10 g5 g6 g7 ?_
    replace hq := hq _ rfl
    refine V.goto (t := 22) d_La_put_11 ⟨rfl, rfl⟩ ?_
    refine V.iconst (x := 0) d_La_put_22 (by decide) ?_
    refine V.iret d_La_put_23 rfl ?_
    exact V.rI hq
  · by_cases hc : (hS h_ xx).1 = 9
    · replace hq := ifp hc hq
      refine Or.inl ⟨14, by rw [hc]; rfl, ?_⟩
      refine V.astore (l' := [_, _, _, _, _, _]) d_La_put_14 rfl (ltb rfl) ?_
      refine V.iconst (x := 1) d_La_put_16 (by decide) ?_
      refine V.iret d_La_put_17 rfl ?_
      exact V.rI hq
    · replace hq := ifn hc hq
      by_cases hc : (hS h_ xx).1 = 10
      · replace hq := ifp hc hq
        refine Or.inl ⟨18, by rw [hc]; rfl, ?_⟩
        refine V.astore (l' := [_, _, _, _, _, _]) d_La_put_18 rfl (ltb rfl) ?_
        refine V.iconst (x := 2) d_La_put_20 (by decide) ?_
        refine V.iret d_La_put_21 rfl ?_
        exact V.rI hq
      · replace hq := ifn hc hq
        cases hq
theorem w_La_cut {d : Nat} {K : Int32 → Hp → Prop} {x0 : Nat} {x1 : Int32} {x2 : Nat} {h0 : Hp} (hq :
  ((hS h0 x0).1 = 7 ∧ Ca d m_Ff_cut [.ref x0, .int x1] h0 (QIx (fun v2 h3 => ((hS h3 x2).1 = 21 ∧ (¬ x2 = 1 ∧ (ainr (0 : Int32) (hS h3 x2).2 = true ∧ (∀ h8 : Hp, h8 = sL h3 x2 (0 : Int32).toNatClampNeg (v2.toInt64) → K (0 : Int32) h8))))) (fun x9 h10 => (if (hS h10 x9).1 = 9 then K (1 : Int32) h10 else False))))) : Ca (d + 1) m_La_cut [.ref x0, .int x1, .ref x2] h0 (QI K) := by
  show Wp _ _ 0 [some (.ref x0), some (.int x1), some (.ref x2), none] [] h0 _
  refine V.aload_n d_La_cut_0 rfl ?_
  refine V.iconst (x := 0) d_La_cut_1 (by decide) ?_
  refine V.aload_n d_La_cut_2 rfl ?_
  refine V.iload_n d_La_cut_3 rfl ?_
  obtain ⟨g1, hq⟩ := hq
  refine V.callIx d_La_cut_4 (cV_call (t := [_]) (rs := [_, _]) rfl (Or.inl rfl) rfl (lk1 g1) ⟨leb rfl, leb rfl⟩) hq (fun v2 h3 hq => ?_) (fun xx h_ hq => ?_)
  · refine V.i2l d_La_cut_7 ?_
    obtain ⟨g5, hq⟩ := hq
    obtain ⟨g6, hq⟩ := hq
    obtain ⟨g7, hq⟩ := hq
    refine V.lastore d_La_cut_8 g5 g6 g7 ?_
    replace hq := hq _ rfl
    refine V.goto (t := 15) d_La_cut_9 ⟨rfl, rfl⟩ ?_
    refine V.iconst (x := 0) d_La_cut_15 (by decide) ?_
    refine V.iret d_La_cut_16 rfl ?_
    exact V.rI hq
  · by_cases hc : (hS h_ xx).1 = 9
    · replace hq := ifp hc hq
      refine Or.inl ⟨12, by rw [hc]; rfl, ?_⟩
      refine V.astore_n (l' := [_, _, _, _]) d_La_cut_12 rfl (ltb rfl) ?_
      refine V.iconst (x := 1) d_La_cut_13 (by decide) ?_
      refine V.iret d_La_cut_14 rfl ?_
      exact V.rI hq
    · replace hq := ifn hc hq
      cases hq
theorem w_La_read {d : Nat} {K : Int32 → Hp → Prop} {x0 : Nat} {x1 : Nat} {h0 : Hp} (hq :
  ((hS h0 x0).1 = 7 ∧ Ca d m_Ff_read [.ref x0] h0 (QIx (fun v2 h3 => ((hS h3 x1).1 = 21 ∧ (¬ x1 = 1 ∧ (ainr (0 : Int32) (hS h3 x1).2 = true ∧ (∀ h8 : Hp, h8 = sL h3 x1 (0 : Int32).toNatClampNeg (v2.toInt64) → K (0 : Int32) h8))))) (fun x9 h10 => (if (hS h10 x9).1 = 12 then K (1 : Int32) h10 else (if (hS h10 x9).1 = 13 then K (2 : Int32) h10 else (if (hS h10 x9).1 = 10 then K (3 : Int32) h10 else (if (hS h10 x9).1 = 11 then K (4 : Int32) h10 else False)))))))) : Ca (d + 1) m_La_read [.ref x0, .ref x1] h0 (QI K) := by
  show Wp _ _ 0 [some (.ref x0), some (.ref x1), none] [] h0 _
  refine V.aload_n d_La_read_0 rfl ?_
  refine V.iconst (x := 0) d_La_read_1 (by decide) ?_
  refine V.aload_n d_La_read_2 rfl ?_
  obtain ⟨g1, hq⟩ := hq
  refine V.callIx d_La_read_3 (cV_call (t := []) (rs := [_, _]) rfl (Or.inl rfl) rfl (lk1 g1) ⟨leb rfl, leb rfl⟩) hq (fun v2 h3 hq => ?_) (fun xx h_ hq => ?_)
  · refine V.i2l d_La_read_6 ?_
    obtain ⟨g5, hq⟩ := hq
    obtain ⟨g6, hq⟩ := hq
    obtain ⟨g7, hq⟩ := hq
    refine V.lastore d_La_read_7 g5 g6 g7 ?_
    replace hq := hq _ rfl
    refine V.goto (t := 23) d_La_read_8 ⟨rfl, rfl⟩ ?_
    refine V.iconst (x := 0) d_La_read_23 (by decide) ?_
    refine V.iret d_La_read_24 rfl ?_
    exact V.rI hq
  · by_cases hc : (hS h_ xx).1 = 12
    · replace hq := ifp hc hq
      refine Or.inl ⟨11, by rw [hc]; rfl, ?_⟩
      refine V.astore_n (l' := [_, _, _]) d_La_read_11 rfl (ltb rfl) ?_
      refine V.iconst (x := 1) d_La_read_12 (by decide) ?_
      refine V.iret d_La_read_13 rfl ?_
      exact V.rI hq
    · replace hq := ifn hc hq
      by_cases hc : (hS h_ xx).1 = 13
      · replace hq := ifp hc hq
        refine Or.inl ⟨14, by rw [hc]; rfl, ?_⟩
        refine V.astore_n (l' := [_, _, _]) d_La_read_14 rfl (ltb rfl) ?_
        refine V.iconst (x := 2) d_La_read_15 (by decide) ?_
        refine V.iret d_La_read_16 rfl ?_
        exact V.rI hq
      · replace hq := ifn hc hq
        by_cases hc : (hS h_ xx).1 = 10
        · replace hq := ifp hc hq
          refine Or.inl ⟨17, by rw [hc]; rfl, ?_⟩
          refine V.astore_n (l' := [_, _, _]) d_La_read_17 rfl (ltb rfl) ?_
          refine V.iconst (x := 3) d_La_read_18 (by decide) ?_
          refine V.iret d_La_read_19 rfl ?_
          exact V.rI hq
        · replace hq := ifn hc hq
          by_cases hc : (hS h_ xx).1 = 11
          · replace hq := ifp hc hq
            refine Or.inl ⟨20, by rw [hc]; rfl, ?_⟩
            refine V.astore_n (l' := [_, _, _]) d_La_read_20 rfl (ltb rfl) ?_
            refine V.iconst (x := 4) d_La_read_21 (by decide) ?_
            refine V.iret d_La_read_22 rfl ?_
            exact V.rI hq
          · replace hq := ifn hc hq
            cases hq
theorem w_La_write {d : Nat} {K : Int32 → Hp → Prop} {x0 : Nat} {x1 : Nat} {h0 : Hp} (hq :
  ((hS h0 x0).1 = 7 ∧ Ca d m_Ff_write [.ref x0] h0 (QIx (fun v2 h3 => ((hS h3 x1).1 = 21 ∧ (¬ x1 = 1 ∧ (ainr (0 : Int32) (hS h3 x1).2 = true ∧ (∀ h8 : Hp, h8 = sL h3 x1 (0 : Int32).toNatClampNeg (v2.toInt64) → K (0 : Int32) h8))))) (fun x9 h10 => (if (hS h10 x9).1 = 12 then K (1 : Int32) h10 else (if (hS h10 x9).1 = 13 then K (2 : Int32) h10 else (if (hS h10 x9).1 = 10 then K (3 : Int32) h10 else (if (hS h10 x9).1 = 11 then K (4 : Int32) h10 else False)))))))) : Ca (d + 1) m_La_write [.ref x0, .ref x1] h0 (QI K) := by
  show Wp _ _ 0 [some (.ref x0), some (.ref x1), none] [] h0 _
  refine V.aload_n d_La_write_0 rfl ?_
  refine V.iconst (x := 0) d_La_write_1 (by decide) ?_
  refine V.aload_n d_La_write_2 rfl ?_
  obtain ⟨g1, hq⟩ := hq
  refine V.callIx d_La_write_3 (cV_call (t := []) (rs := [_, _]) rfl (Or.inl rfl) rfl (lk1 g1) ⟨leb rfl, leb rfl⟩) hq (fun v2 h3 hq => ?_) (fun xx h_ hq => ?_)
  · refine V.i2l d_La_write_6 ?_
    obtain ⟨g5, hq⟩ := hq
    obtain ⟨g6, hq⟩ := hq
    obtain ⟨g7, hq⟩ := hq
    refine V.lastore d_La_write_7 g5 g6 g7 ?_
    replace hq := hq _ rfl
    refine V.goto (t := 23) d_La_write_8 ⟨rfl, rfl⟩ ?_
    refine V.iconst (x := 0) d_La_write_23 (by decide) ?_
    refine V.iret d_La_write_24 rfl ?_
    exact V.rI hq
  · by_cases hc : (hS h_ xx).1 = 12
    · replace hq := ifp hc hq
      refine Or.inl ⟨11, by rw [hc]; rfl, ?_⟩
      refine V.astore_n (l' := [_, _, _]) d_La_write_11 rfl (ltb rfl) ?_
      refine V.iconst (x := 1) d_La_write_12 (by decide) ?_
      refine V.iret d_La_write_13 rfl ?_
      exact V.rI hq
    · replace hq := ifn hc hq
      by_cases hc : (hS h_ xx).1 = 13
      · replace hq := ifp hc hq
        refine Or.inl ⟨14, by rw [hc]; rfl, ?_⟩
        refine V.astore_n (l' := [_, _, _]) d_La_write_14 rfl (ltb rfl) ?_
        refine V.iconst (x := 2) d_La_write_15 (by decide) ?_
        refine V.iret d_La_write_16 rfl ?_
        exact V.rI hq
      · replace hq := ifn hc hq
        by_cases hc : (hS h_ xx).1 = 10
        · replace hq := ifp hc hq
          refine Or.inl ⟨17, by rw [hc]; rfl, ?_⟩
          refine V.astore_n (l' := [_, _, _]) d_La_write_17 rfl (ltb rfl) ?_
          refine V.iconst (x := 3) d_La_write_18 (by decide) ?_
          refine V.iret d_La_write_19 rfl ?_
          exact V.rI hq
        · replace hq := ifn hc hq
          by_cases hc : (hS h_ xx).1 = 11
          · replace hq := ifp hc hq
            refine Or.inl ⟨20, by rw [hc]; rfl, ?_⟩
            refine V.astore_n (l' := [_, _, _]) d_La_write_20 rfl (ltb rfl) ?_
            refine V.iconst (x := 4) d_La_write_21 (by decide) ?_
            refine V.iret d_La_write_22 rfl ?_
            exact V.rI hq
          · replace hq := ifn hc hq
            cases hq
theorem w_La_value {d : Nat} {K : Int32 → Hp → Prop} {x0 : Nat} {x1 : Int32} {x2 : Nat} {h0 : Hp} (hq :
  ((hS h0 x0).1 = 7 ∧ Ca d m_Ff_value [.ref x0, .int x1] h0 (QLx (fun v2 h3 => ((hS h3 x2).1 = 21 ∧ (¬ x2 = 1 ∧ (ainr (0 : Int32) (hS h3 x2).2 = true ∧ (∀ h8 : Hp, h8 = sL h3 x2 (0 : Int32).toNatClampNeg v2 → K (0 : Int32) h8))))) (fun x9 h10 => (if (hS h10 x9).1 = 11 then K (1 : Int32) h10 else False))))) : Ca (d + 1) m_La_value [.ref x0, .int x1, .ref x2] h0 (QI K) := by
  show Wp _ _ 0 [some (.ref x0), some (.int x1), some (.ref x2), none] [] h0 _
  refine V.aload_n d_La_value_0 rfl ?_
  refine V.iconst (x := 0) d_La_value_1 (by decide) ?_
  refine V.aload_n d_La_value_2 rfl ?_
  refine V.iload_n d_La_value_3 rfl ?_
  obtain ⟨g1, hq⟩ := hq
  refine V.callLx d_La_value_4 (cV_call (t := [_]) (rs := [_, _]) rfl (Or.inl rfl) rfl (lk1 g1) ⟨leb rfl, leb rfl⟩) hq (fun v2 h3 hq => ?_) (fun xx h_ hq => ?_)
  · obtain ⟨g5, hq⟩ := hq
    obtain ⟨g6, hq⟩ := hq
    obtain ⟨g7, hq⟩ := hq
    refine V.lastore d_La_value_7 g5 g6 g7 ?_
    replace hq := hq _ rfl
    refine V.goto (t := 14) d_La_value_8 ⟨rfl, rfl⟩ ?_
    refine V.iconst (x := 0) d_La_value_14 (by decide) ?_
    refine V.iret d_La_value_15 rfl ?_
    exact V.rI hq
  · by_cases hc : (hS h_ xx).1 = 11
    · replace hq := ifp hc hq
      refine Or.inl ⟨11, by rw [hc]; rfl, ?_⟩
      refine V.astore_n (l' := [_, _, _, _]) d_La_value_11 rfl (ltb rfl) ?_
      refine V.iconst (x := 1) d_La_value_12 (by decide) ?_
      refine V.iret d_La_value_13 rfl ?_
      exact V.rI hq
    · replace hq := ifn hc hq
      cases hq
theorem w_La_real {d : Nat} {K : Int32 → Hp → Prop} {x0 : Nat} {x1 : Int32} {x2 : Nat} {h0 : Hp} (hq :
  ((hS h0 x0).1 = 7 ∧ Ca d m_Ff_real [.ref x0, .int x1] h0 (QDx (fun v2 h3 => ((hS h3 x2).1 = 23 ∧ (¬ x2 = 1 ∧ (ainr (0 : Int32) (hS h3 x2).2 = true ∧ (∀ h8 : Hp, h8 = sD h3 x2 (0 : Int32).toNatClampNeg v2 → K (0 : Int32) h8))))) (fun x9 h10 => (if (hS h10 x9).1 = 11 then K (1 : Int32) h10 else False))))) : Ca (d + 1) m_La_real [.ref x0, .int x1, .ref x2] h0 (QI K) := by
  show Wp _ _ 0 [some (.ref x0), some (.int x1), some (.ref x2), none] [] h0 _
  refine V.aload_n d_La_real_0 rfl ?_
  refine V.iconst (x := 0) d_La_real_1 (by decide) ?_
  refine V.aload_n d_La_real_2 rfl ?_
  refine V.iload_n d_La_real_3 rfl ?_
  obtain ⟨g1, hq⟩ := hq
  refine V.callDx d_La_real_4 (cV_call (t := [_]) (rs := [_, _]) rfl (Or.inl rfl) rfl (lk1 g1) ⟨leb rfl, leb rfl⟩) hq (fun v2 h3 hq => ?_) (fun xx h_ hq => ?_)
  · obtain ⟨g5, hq⟩ := hq
    obtain ⟨g6, hq⟩ := hq
    obtain ⟨g7, hq⟩ := hq
    refine V.dastore d_La_real_7 g5 g6 g7 ?_
    replace hq := hq _ rfl
    refine V.goto (t := 14) d_La_real_8 ⟨rfl, rfl⟩ ?_
    refine V.iconst (x := 0) d_La_real_14 (by decide) ?_
    refine V.iret d_La_real_15 rfl ?_
    exact V.rI hq
  · by_cases hc : (hS h_ xx).1 = 11
    · replace hq := ifp hc hq
      refine Or.inl ⟨11, by rw [hc]; rfl, ?_⟩
      refine V.astore_n (l' := [_, _, _, _]) d_La_real_11 rfl (ltb rfl) ?_
      refine V.iconst (x := 1) d_La_real_12 (by decide) ?_
      refine V.iret d_La_real_13 rfl ?_
      exact V.rI hq
    · replace hq := ifn hc hq
      cases hq
theorem w_La_set {d : Nat} {K : Int32 → Hp → Prop} {x0 : Nat} {x1 : Int32} {x2 : Int64} {x4 : Nat} {h0 : Hp} (hq :
  ((hS h0 x0).1 = 7 ∧ Ca d m_Ff_set [.ref x0, .int x1, .long x2] h0 (QIx (fun v2 h3 => ((hS h3 x4).1 = 21 ∧ (¬ x4 = 1 ∧ (ainr (0 : Int32) (hS h3 x4).2 = true ∧ (∀ h8 : Hp, h8 = sL h3 x4 (0 : Int32).toNatClampNeg (v2.toInt64) → K (0 : Int32) h8))))) (fun x9 h10 => (if (hS h10 x9).1 = 9 then K (1 : Int32) h10 else (if (hS h10 x9).1 = 10 then K (2 : Int32) h10 else False)))))) : Ca (d + 1) m_La_set [.ref x0, .int x1, .long x2, .ref x4] h0 (QI K) := by
  show Wp _ _ 0 [some (.ref x0), some (.int x1), some (.long x2), none, some (.ref x4), none] [] h0 _
  refine V.aload d_La_set_0 rfl ?_
  refine V.iconst (x := 0) d_La_set_2 (by decide) ?_
  refine V.aload_n d_La_set_3 rfl ?_
  refine V.iload_n d_La_set_4 rfl ?_
  refine V.lload_n d_La_set_5 rfl ?_
  obtain ⟨g1, hq⟩ := hq
  refine V.callIx d_La_set_6 (cV_call (t := [_, _]) (rs := [_, _]) rfl (Or.inl rfl) rfl (lk1 g1) ⟨leb rfl, leb rfl⟩) hq (fun v2 h3 hq => ?_) (fun xx h_ hq => ?_)
  · refine V.i2l d_La_set_9 ?_
    obtain ⟨g5, hq⟩ := hq
    obtain ⟨g6, hq⟩ := hq
    obtain ⟨g7, hq⟩ := hq
    refine V.lastore d_La_set_10 g5 g6 g7 ?_
    replace hq := hq _ rfl
    refine V.goto (t := 22) d_La_set_11 ⟨rfl, rfl⟩ ?_
    refine V.iconst (x := 0) d_La_set_22 (by decide) ?_
    refine V.iret d_La_set_23 rfl ?_
    exact V.rI hq
  · by_cases hc : (hS h_ xx).1 = 9
    · replace hq := ifp hc hq
      refine Or.inl ⟨14, by rw [hc]; rfl, ?_⟩
      refine V.astore (l' := [_, _, _, _, _, _]) d_La_set_14 rfl (ltb rfl) ?_
      refine V.iconst (x := 1) d_La_set_16 (by decide) ?_
      refine V.iret d_La_set_17 rfl ?_
      exact V.rI hq
    · replace hq := ifn hc hq
      by_cases hc : (hS h_ xx).1 = 10
      · replace hq := ifp hc hq
        refine Or.inl ⟨18, by rw [hc]; rfl, ?_⟩
        refine V.astore (l' := [_, _, _, _, _, _]) d_La_set_18 rfl (ltb rfl) ?_
        refine V.iconst (x := 2) d_La_set_20 (by decide) ?_
        refine V.iret d_La_set_21 rfl ?_
        exact V.rI hq
      · replace hq := ifn hc hq
        cases hq
theorem w_La_drop {d : Nat} {K : Int32 → Hp → Prop} {x0 : Nat} {x1 : Int32} {x2 : Int32} {x3 : Nat} {h0 : Hp} (hq :
  ((hS h0 x0).1 = 7 ∧ Ca d m_Ff_drop [.ref x0, .int x1, .int x2] h0 (QIx (fun v2 h3 => ((hS h3 x3).1 = 21 ∧ (¬ x3 = 1 ∧ (ainr (0 : Int32) (hS h3 x3).2 = true ∧ (∀ h8 : Hp, h8 = sL h3 x3 (0 : Int32).toNatClampNeg (v2.toInt64) → K (0 : Int32) h8))))) (fun x9 h10 => (if (hS h10 x9).1 = 11 then K (1 : Int32) h10 else False))))) : Ca (d + 1) m_La_drop [.ref x0, .int x1, .int x2, .ref x3] h0 (QI K) := by
  show Wp _ _ 0 [some (.ref x0), some (.int x1), some (.int x2), some (.ref x3), none] [] h0 _
  refine V.aload_n d_La_drop_0 rfl ?_
  refine V.iconst (x := 0) d_La_drop_1 (by decide) ?_
  refine V.aload_n d_La_drop_2 rfl ?_
  refine V.iload_n d_La_drop_3 rfl ?_
  refine V.iload_n d_La_drop_4 rfl ?_
  obtain ⟨g1, hq⟩ := hq
  refine V.callIx d_La_drop_5 (cV_call (t := [_, _]) (rs := [_, _]) rfl (Or.inl rfl) rfl (lk1 g1) ⟨leb rfl, leb rfl⟩) hq (fun v2 h3 hq => ?_) (fun xx h_ hq => ?_)
  · refine V.i2l d_La_drop_8 ?_
    obtain ⟨g5, hq⟩ := hq
    obtain ⟨g6, hq⟩ := hq
    obtain ⟨g7, hq⟩ := hq
    refine V.lastore d_La_drop_9 g5 g6 g7 ?_
    replace hq := hq _ rfl
    refine V.goto (t := 17) d_La_drop_10 ⟨rfl, rfl⟩ ?_
    refine V.iconst (x := 0) d_La_drop_17 (by decide) ?_
    refine V.iret d_La_drop_18 rfl ?_
    exact V.rI hq
  · by_cases hc : (hS h_ xx).1 = 11
    · replace hq := ifp hc hq
      refine Or.inl ⟨13, by rw [hc]; rfl, ?_⟩
      refine V.astore (l' := [_, _, _, _, _]) d_La_drop_13 rfl (ltb rfl) ?_
      refine V.iconst (x := 1) d_La_drop_15 (by decide) ?_
      refine V.iret d_La_drop_16 rfl ?_
      exact V.rI hq
    · replace hq := ifn hc hq
      cases hq
theorem w_La_byteAt {d : Nat} {K : Int32 → Hp → Prop} {x0 : Nat} {x1 : Int32} {x2 : Nat} {h0 : Hp} (hq :
  ((hS h0 x0).1 = 7 ∧ Ca d m_Ff_byteAt [.ref x0, .int x1] h0 (QIx (fun v2 h3 => ((hS h3 x2).1 = 21 ∧ (¬ x2 = 1 ∧ (ainr (0 : Int32) (hS h3 x2).2 = true ∧ (∀ h8 : Hp, h8 = sL h3 x2 (0 : Int32).toNatClampNeg (v2.toInt64) → K (0 : Int32) h8))))) (fun x9 h10 => (if (hS h10 x9).1 = 11 then K (1 : Int32) h10 else False))))) : Ca (d + 1) m_La_byteAt [.ref x0, .int x1, .ref x2] h0 (QI K) := by
  show Wp _ _ 0 [some (.ref x0), some (.int x1), some (.ref x2), none] [] h0 _
  refine V.aload_n d_La_byteAt_0 rfl ?_
  refine V.iconst (x := 0) d_La_byteAt_1 (by decide) ?_
  refine V.aload_n d_La_byteAt_2 rfl ?_
  refine V.iload_n d_La_byteAt_3 rfl ?_
  obtain ⟨g1, hq⟩ := hq
  refine V.callIx d_La_byteAt_4 (cV_call (t := [_]) (rs := [_, _]) rfl (Or.inl rfl) rfl (lk1 g1) ⟨leb rfl, leb rfl⟩) hq (fun v2 h3 hq => ?_) (fun xx h_ hq => ?_)
  · refine V.i2l d_La_byteAt_7 ?_
    obtain ⟨g5, hq⟩ := hq
    obtain ⟨g6, hq⟩ := hq
    obtain ⟨g7, hq⟩ := hq
    refine V.lastore d_La_byteAt_8 g5 g6 g7 ?_
    replace hq := hq _ rfl
    refine V.goto (t := 15) d_La_byteAt_9 ⟨rfl, rfl⟩ ?_
    refine V.iconst (x := 0) d_La_byteAt_15 (by decide) ?_
    refine V.iret d_La_byteAt_16 rfl ?_
    exact V.rI hq
  · by_cases hc : (hS h_ xx).1 = 11
    · replace hq := ifp hc hq
      refine Or.inl ⟨12, by rw [hc]; rfl, ?_⟩
      refine V.astore_n (l' := [_, _, _, _]) d_La_byteAt_12 rfl (ltb rfl) ?_
      refine V.iconst (x := 1) d_La_byteAt_13 (by decide) ?_
      refine V.iret d_La_byteAt_14 rfl ?_
      exact V.rI hq
    · replace hq := ifn hc hq
      cases hq
theorem w_La_count {d : Nat} {K : Int32 → Hp → Prop} {x0 : Nat} {x1 : Int32} {x2 : Nat} {h0 : Hp} (hq :
  ((hS h0 x0).1 = 7 ∧ Ca d m_Ff_count [.ref x0, .int x1] h0 (QIx (fun v2 h3 => ((hS h3 x2).1 = 21 ∧ (¬ x2 = 1 ∧ (ainr (0 : Int32) (hS h3 x2).2 = true ∧ (∀ h8 : Hp, h8 = sL h3 x2 (0 : Int32).toNatClampNeg (v2.toInt64) → K (0 : Int32) h8))))) (fun x9 h10 => (if (hS h10 x9).1 = 9 then K (1 : Int32) h10 else False))))) : Ca (d + 1) m_La_count [.ref x0, .int x1, .ref x2] h0 (QI K) := by
  show Wp _ _ 0 [some (.ref x0), some (.int x1), some (.ref x2), none] [] h0 _
  refine V.aload_n d_La_count_0 rfl ?_
  refine V.iconst (x := 0) d_La_count_1 (by decide) ?_
  refine V.aload_n d_La_count_2 rfl ?_
  refine V.iload_n d_La_count_3 rfl ?_
  obtain ⟨g1, hq⟩ := hq
  refine V.callIx d_La_count_4 (cV_call (t := [_]) (rs := [_, _]) rfl (Or.inl rfl) rfl (lk1 g1) ⟨leb rfl, leb rfl⟩) hq (fun v2 h3 hq => ?_) (fun xx h_ hq => ?_)
  · refine V.i2l d_La_count_7 ?_
    obtain ⟨g5, hq⟩ := hq
    obtain ⟨g6, hq⟩ := hq
    obtain ⟨g7, hq⟩ := hq
    refine V.lastore d_La_count_8 g5 g6 g7 ?_
    replace hq := hq _ rfl
    refine V.goto (t := 15) d_La_count_9 ⟨rfl, rfl⟩ ?_
    refine V.iconst (x := 0) d_La_count_15 (by decide) ?_
    refine V.iret d_La_count_16 rfl ?_
    exact V.rI hq
  · by_cases hc : (hS h_ xx).1 = 9
    · replace hq := ifp hc hq
      refine Or.inl ⟨12, by rw [hc]; rfl, ?_⟩
      refine V.astore_n (l' := [_, _, _, _]) d_La_count_12 rfl (ltb rfl) ?_
      refine V.iconst (x := 1) d_La_count_13 (by decide) ?_
      refine V.iret d_La_count_14 rfl ?_
      exact V.rI hq
    · replace hq := ifn hc hq
      cases hq
