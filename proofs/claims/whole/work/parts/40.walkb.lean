theorem w_Fo_init {d : Nat} {K : Hp → Prop} {x0 : Nat} {h0 : Hp} (hq :
  (2 ≤ x0 ∧ ((¬ (90 : Int32) < 0 ∧ (90 : Int32).toNatClampNeg ≤ 100000 ∧ room h0 (90 : Int32).toNatClampNeg = true) ∧ (∀ a3 : Nat, a3 = hN h0 → (∀ h4 : Hp, h4 = hNew h0 24 (90 : Int32).toNatClampNeg (90 : Int32).toNatClampNeg → ((hS h4 x0).1 = 3 ∧ (∀ h7 : Hp, h7 = sR h4 x0 0 a3 → Wp (d + 1) m_Fo_init 15 [some (.ref x0), some (.int (0 : Int32))] [] h7 (QV K)))))))) : Ca (d + 1) m_Fo_init [.ref x0] h0 (QV K) := by
  show Wp _ _ 0 [some (.ref x0), none] [] h0 _
  refine V.aload_n d_Fo_init_0 rfl ?_
  obtain ⟨g1, hq⟩ := hq
  refine V.objInit d_Fo_init_1 rfl g1 (leb rfl) ?_
  refine V.aload_n d_Fo_init_4 rfl ?_
  refine V.bipush (x := 90) d_Fo_init_5 (by decide) ?_
  obtain ⟨g2, hq⟩ := hq
  refine V.anewa d_Fo_init_7 rfl g2 ?_
  replace hq := hq _ rfl
  replace hq := hq _ rfl
  obtain ⟨g6, hq⟩ := hq
  refine V.put2 d_Fo_init_10 rfl (Or.inr rfl) (List.mem_singleton.mpr g6) ?_
  replace hq := hq _ rfl
  refine V.iconst (x := 0) d_Fo_init_13 (by decide) ?_
  refine V.istore_n (l' := [_, _]) d_Fo_init_14 rfl (ltb rfl) ?_
  exact hq
theorem w_Fo_init_15 {d : Nat} {K : Hp → Prop} {x0 : Nat} {x1 : Int32} {h0 : Hp} (hq :
  (if x1 < (90 : Int32) then ((hS h0 x0).1 = 3 ∧ (room h0 16 = true ∧ (∀ a10 : Nat, a10 = hN h0 → (∀ h11 : Hp, h11 = hNew h0 2 0 16 → ((hS h11 a10).1 = 2 ∧ Ca d m_No_init [.ref a10] h11 (QV (fun h14 => ((hS h14 (hR h0 x0 0)).1 = 24 ∧ (¬ (hR h0 x0 0) = 1 ∧ (ainr x1 (hS h14 (hR h0 x0 0)).2 = true ∧ ((hS h14 a10).1 = 2 ∧ (∀ h20 : Hp, h20 = sR h14 (hR h0 x0 0) x1.toNatClampNeg a10 → (∀ v21 : Int32, v21 = (x1 + 1) → Wp (d + 1) m_Fo_init 15 [some (.ref x0), some (.int v21)] [] h20 (QV K)))))))))))))) else ((hS h0 x0).1 = 3 ∧ (∀ h23 : Hp, h23 = sI h0 x0 1 (0 : Int32) → K h23)))) : Wp (d + 1) m_Fo_init 15 [some (.ref x0), some (.int x1)] [] h0 (QV K) := by
  refine V.iload_n d_Fo_init_15 rfl ?_
  refine V.bipush (x := 90) d_Fo_init_16 (by decide) ?_
  refine V.ic_ge (t := 40) d_Fo_init_18 ⟨rfl, rfl⟩ (fun hc => ?_) (fun hc => ?_)
  · replace hq := ifp hc hq
    refine V.aload_n d_Fo_init_21 rfl ?_
    obtain ⟨g8, hq⟩ := hq
    refine V.get2 d_Fo_init_22 rfl (List.mem_singleton.mpr g8) ?_
    refine V.iload_n d_Fo_init_25 rfl ?_
    obtain ⟨g9, hq⟩ := hq
    refine V.new d_Fo_init_26 rfl (by decide) g9 ?_
    replace hq := hq _ rfl
    replace hq := hq _ rfl
    refine V.dupR d_Fo_init_29 ?_
    obtain ⟨g13, hq⟩ := hq
    refine V.callV d_Fo_init_30 (cI_call (t := []) (rs := [_, _, _]) rfl rfl (lk1 g13) ⟨leb rfl, leb rfl⟩) hq (fun h14 hq => ?_)
    obtain ⟨g16, hq⟩ := hq
    obtain ⟨g17, hq⟩ := hq
    obtain ⟨g18, hq⟩ := hq
    obtain ⟨g19, hq⟩ := hq
    refine V.aastore d_Fo_init_33 g16 g17 g18 g19 ?_
    replace hq := hq _ rfl
    replace hq := hq _ rfl
    refine V.iinc (l' := [_, _]) d_Fo_init_34 rfl (show _ + _ = _ + (1 : Int32) from rfl) rfl ?_
    refine V.goto (t := 15) d_Fo_init_37 ⟨rfl, rfl⟩ ?_
    exact hq
  · replace hq := ifn hc hq
    refine V.aload_n d_Fo_init_40 rfl ?_
    refine V.iconst (x := 0) d_Fo_init_41 (by decide) ?_
    obtain ⟨g22, hq⟩ := hq
    refine V.put0 d_Fo_init_42 rfl (Or.inl rfl) (List.mem_singleton.mpr g22) ?_
    replace hq := hq _ rfl
    refine V.vret d_Fo_init_45 rfl ?_
    exact V.rV hq
theorem w_Fo_forgetAll {d : Nat} {K : Hp → Prop} {x0 : Nat} {h0 : Hp} (hq :
  ((hS h0 x0).1 = 3 ∧ (∀ h2 : Hp, h2 = sI h0 x0 1 (0 : Int32) → K h2))) : Ca d m_Fo_forgetAll [.ref x0] h0 (QV K) := by
  show Wp _ _ 0 [some (.ref x0)] [] h0 _
  refine V.aload_n d_Fo_forgetAll_0 rfl ?_
  refine V.iconst (x := 0) d_Fo_forgetAll_1 (by decide) ?_
  obtain ⟨g1, hq⟩ := hq
  refine V.put0 d_Fo_forgetAll_2 rfl (Or.inl rfl) (List.mem_singleton.mpr g1) ?_
  replace hq := hq _ rfl
  refine V.vret d_Fo_forgetAll_5 rfl ?_
  exact V.rV hq
theorem w_Fo_fresh {d : Nat} {K : Nat → Hp → Prop} {x0 : Nat} {x1 : Int32} {x2 : Nat} {x3 : Int32} {h0 : Hp} (hq :
  ((hS h0 x0).1 = 3 ∧ (isArr (hS h0 (hR h0 x0 0)).1 = true ∧ (if (hI h0 x0 1) < (Int32.ofNat (hS h0 (hR h0 x0 0)).2) then ((hS h0 (hR h0 x0 0)).1 = 24 ∧ (ainr (hI h0 x0 1) (hS h0 (hR h0 x0 0)).2 = true ∧ (∀ v5 : Nat, v5 = (hR h0 (hR h0 x0 0) (hI h0 x0 1).toNatClampNeg) → (∀ h6 : Hp, h6 = sI h0 x0 1 ((hI h0 x0 1) + (1 : Int32)) → ((hS h0 v5).1 = 2 ∧ Ca d m_No_become [.ref v5, .int x1, .ref x2, .int x3] h6 (QV (fun h8 => K v5 h8))))))) else K 0 h0)))) : Ca (d + 1) m_Fo_fresh [.ref x0, .int x1, .ref x2, .int x3] h0 (QR K) := by
  show Wp _ _ 0 [some (.ref x0), some (.int x1), some (.ref x2), some (.int x3), none] [] h0 _
  refine V.aload_n d_Fo_fresh_0 rfl ?_
  obtain ⟨g1, hq⟩ := hq
  refine V.get0 d_Fo_fresh_1 rfl (List.mem_singleton.mpr g1) ?_
  refine V.aload_n d_Fo_fresh_4 rfl ?_
  refine V.get2 d_Fo_fresh_5 rfl (List.mem_singleton.mpr g1) ?_
  obtain ⟨g2, hq⟩ := hq
  refine V.alen d_Fo_fresh_8 g2 ?_
  refine V.ic_lt (t := 14) d_Fo_fresh_9 ⟨rfl, rfl⟩ (fun hc => ?_) (fun hc => ?_)
  · replace hq := ifp hc hq
    refine V.aload_n d_Fo_fresh_14 rfl ?_
    refine V.get2 d_Fo_fresh_15 rfl (List.mem_singleton.mpr g1) ?_
    refine V.aload_n d_Fo_fresh_18 rfl ?_
    refine V.get0 d_Fo_fresh_19 rfl (List.mem_singleton.mpr g1) ?_
    obtain ⟨g3, hq⟩ := hq
    obtain ⟨g4, hq⟩ := hq
    refine V.aaload d_Fo_fresh_22 g3 g4 ?_
    replace hq := hq _ rfl
    refine V.astore (l' := [_, _, _, _, _]) d_Fo_fresh_23 rfl (ltb rfl) ?_
    refine V.aload_n d_Fo_fresh_25 rfl ?_
    refine V.dupR d_Fo_fresh_26 ?_
    refine V.get0 d_Fo_fresh_27 rfl (List.mem_singleton.mpr g1) ?_
    refine V.iconst (x := 1) d_Fo_fresh_30 (by decide) ?_
    refine V.iadd d_Fo_fresh_31 ?_
    refine V.put0 d_Fo_fresh_32 rfl (Or.inl rfl) (List.mem_singleton.mpr g1) ?_
    replace hq := hq _ rfl
    refine V.aload d_Fo_fresh_35 rfl ?_
    refine V.iload_n d_Fo_fresh_37 rfl ?_
    refine V.aload_n d_Fo_fresh_38 rfl ?_
    refine V.iload_n d_Fo_fresh_39 rfl ?_
    obtain ⟨g7, hq⟩ := hq
    refine V.callV d_Fo_fresh_40 (cV_call (t := [_, _, _]) (rs := []) rfl (Or.inl rfl) rfl (lk1 g7) ⟨leb rfl, leb rfl⟩) hq (fun h8 hq => ?_)
    refine V.aload d_Fo_fresh_43 rfl ?_
    refine V.aret d_Fo_fresh_45 rfl ?_
    exact V.rR hq
  · replace hq := ifn hc hq
    refine V.aconst_null d_Fo_fresh_12 ?_
    refine V.aret d_Fo_fresh_13 rfl ?_
    exact V.rR hq
theorem w_Fo_whole {d : Nat} {K : Nat → Hp → Prop} {x0 : Nat} {h0 : Hp} (hq :
  ((hS h0 x0).1 = 3 ∧ (if 0 < (hI h0 x0 1) then ((hS h0 (hR h0 x0 0)).1 = 24 ∧ (ainr (0 : Int32) (hS h0 (hR h0 x0 0)).2 = true ∧ K (hR h0 (hR h0 x0 0) (0 : Int32).toNatClampNeg) h0)) else K 0 h0))) : Ca d m_Fo_whole [.ref x0] h0 (QR K) := by
  show Wp _ _ 0 [some (.ref x0)] [] h0 _
  refine V.aload_n d_Fo_whole_0 rfl ?_
  obtain ⟨g1, hq⟩ := hq
  refine V.get0 d_Fo_whole_1 rfl (List.mem_singleton.mpr g1) ?_
  refine V.if_le (t := 16) d_Fo_whole_4 ⟨rfl, rfl⟩ (fun hc => ?_) (fun hc => ?_)
  · replace hq := ifp hc hq
    refine V.aload_n d_Fo_whole_7 rfl ?_
    refine V.get2 d_Fo_whole_8 rfl (List.mem_singleton.mpr g1) ?_
    refine V.iconst (x := 0) d_Fo_whole_11 (by decide) ?_
    obtain ⟨g2, hq⟩ := hq
    obtain ⟨g3, hq⟩ := hq
    refine V.aaload d_Fo_whole_12 g2 g3 ?_
    refine V.goto (t := 17) d_Fo_whole_13 ⟨rfl, rfl⟩ ?_
    refine V.aret d_Fo_whole_17 rfl ?_
    exact V.rR hq
  · replace hq := ifn hc hq
    refine V.aconst_null d_Fo_whole_16 ?_
    refine V.aret d_Fo_whole_17 rfl ?_
    exact V.rR hq
theorem w_Fo_least {d : Nat} {K : Int32 → Hp → Prop} {x0 : Nat} {h0 : Hp} (hq :
  ((hS h0 x0).1 = 3 ∧ Ca d m_Fo_whole [.ref x0] h0 (QR (fun v2 h3 => (if v2 = 0 then K (0 : Int32) h3 else ((hS h3 v2).1 = 2 ∧ K ((hL h3 v2 13).toInt32) h3)))))) : Ca (d + 1) m_Fo_least [.ref x0] h0 (QI K) := by
  show Wp _ _ 0 [some (.ref x0), none] [] h0 _
  refine V.aload_n d_Fo_least_0 rfl ?_
  obtain ⟨g1, hq⟩ := hq
  refine V.callR d_Fo_least_1 (cV_call (t := []) (rs := []) rfl (Or.inl rfl) rfl (lk1 g1) ⟨leb rfl, leb rfl⟩) hq (fun v2 h3 hq => ?_)
  refine V.astore_n (l' := [_, _]) d_Fo_least_4 rfl (ltb rfl) ?_
  refine V.aload_n d_Fo_least_5 rfl ?_
  refine V.ifnonnull (t := 13) d_Fo_least_6 ⟨rfl, rfl⟩ (fun hc => ?_) (fun hc => ?_)
  · replace hq := ifp hc hq
    refine V.iconst (x := 0) d_Fo_least_9 (by decide) ?_
    refine V.goto (t := 18) d_Fo_least_10 ⟨rfl, rfl⟩ ?_
    refine V.iret d_Fo_least_18 rfl ?_
    exact V.rI hq
  · replace hq := ifn hc hq
    refine V.aload_n d_Fo_least_13 rfl ?_
    obtain ⟨g5, hq⟩ := hq
    refine V.get1 d_Fo_least_14 rfl (List.mem_singleton.mpr g5) ?_
    refine V.l2i d_Fo_least_17 ?_
    refine V.iret d_Fo_least_18 rfl ?_
    exact V.rI hq
theorem w_Fo_most {d : Nat} {K : Int32 → Hp → Prop} {x0 : Nat} {h0 : Hp} (hq :
  ((hS h0 x0).1 = 3 ∧ Ca d m_Fo_whole [.ref x0] h0 (QR (fun v2 h3 => (if v2 = 0 then K (0 : Int32) h3 else ((hS h3 v2).1 = 2 ∧ K ((hL h3 v2 14).toInt32) h3)))))) : Ca (d + 1) m_Fo_most [.ref x0] h0 (QI K) := by
  show Wp _ _ 0 [some (.ref x0), none] [] h0 _
  refine V.aload_n d_Fo_most_0 rfl ?_
  obtain ⟨g1, hq⟩ := hq
  refine V.callR d_Fo_most_1 (cV_call (t := []) (rs := []) rfl (Or.inl rfl) rfl (lk1 g1) ⟨leb rfl, leb rfl⟩) hq (fun v2 h3 hq => ?_)
  refine V.astore_n (l' := [_, _]) d_Fo_most_4 rfl (ltb rfl) ?_
  refine V.aload_n d_Fo_most_5 rfl ?_
  refine V.ifnonnull (t := 13) d_Fo_most_6 ⟨rfl, rfl⟩ (fun hc => ?_) (fun hc => ?_)
  · replace hq := ifp hc hq
    refine V.iconst (x := 0) d_Fo_most_9 (by decide) ?_
    refine V.goto (t := 18) d_Fo_most_10 ⟨rfl, rfl⟩ ?_
    refine V.iret d_Fo_most_18 rfl ?_
    exact V.rI hq
  · replace hq := ifn hc hq
    refine V.aload_n d_Fo_most_13 rfl ?_
    obtain ⟨g5, hq⟩ := hq
    refine V.get1 d_Fo_most_14 rfl (List.mem_singleton.mpr g5) ?_
    refine V.l2i d_Fo_most_17 ?_
    refine V.iret d_Fo_most_18 rfl ?_
    exact V.rI hq
theorem w_Fo_isSound {d : Nat} {K : Int32 → Hp → Prop} {x0 : Nat} {h0 : Hp} (hq :
  Wp (d + 1) m_Fo_isSound 2 [some (.ref x0), some (.int (0 : Int32)), none] [] h0 (QI K)) : Ca (d + 1) m_Fo_isSound [.ref x0] h0 (QI K) := by
  show Wp _ _ 0 [some (.ref x0), none, none] [] h0 _
  refine V.iconst (x := 0) d_Fo_isSound_0 (by decide) ?_
  refine V.istore_n (l' := [_, _, _]) d_Fo_isSound_1 rfl (ltb rfl) ?_
  exact hq
theorem w_Fo_isSound_2 {d : Nat} {K : Int32 → Hp → Prop} {x0 : Nat} {x1 : Int32} {y2 : Option Value} {h0 : Hp} (hq :
  ((hS h0 x0).1 = 3 ∧ (if x1 < (hI h0 x0 1) then ((hS h0 (hR h0 x0 0)).1 = 24 ∧ (ainr x1 (hS h0 (hR h0 x0 0)).2 = true ∧ (∀ v4 : Nat, v4 = (hR h0 (hR h0 x0 0) x1.toNatClampNeg) → Ca d m_Fo_isInPlace [.ref v4] h0 (QI (fun v5 h6 => (if v5 = 0 then K (0 : Int32) h6 else ((hS h6 v4).1 = 2 ∧ (if (hL h6 v4 12) < (hL h6 v4 11) then K (0 : Int32) h6 else Ca d m_Fo_findMeaning [.ref v4] h6 (QI (fun v9 h10 => (if v9 = 0 then K (0 : Int32) h10 else (∀ v12 : Int32, v12 = (x1 + 1) → Wp (d + 1) m_Fo_isSound 2 [some (.ref x0), some (.int v12), some (.ref v4)] [] h10 (QI K))))))))))))) else (∀ v13 : Int32, v13 = ((hI h0 x0 1) - (1 : Int32)) → Wp (d + 1) m_Fo_isSound 58 [some (.ref x0), some (.int v13), y2] [] h0 (QI K))))) : Wp (d + 1) m_Fo_isSound 2 [some (.ref x0), some (.int x1), y2] [] h0 (QI K) := by
  refine V.iload_n d_Fo_isSound_2 rfl ?_
  refine V.aload_n d_Fo_isSound_3 rfl ?_
  obtain ⟨g1, hq⟩ := hq
  refine V.get0 d_Fo_isSound_4 rfl (List.mem_singleton.mpr g1) ?_
  refine V.ic_ge (t := 51) d_Fo_isSound_7 ⟨rfl, rfl⟩ (fun hc => ?_) (fun hc => ?_)
  · replace hq := ifp hc hq
    refine V.aload_n d_Fo_isSound_10 rfl ?_
    refine V.get2 d_Fo_isSound_11 rfl (List.mem_singleton.mpr g1) ?_
    refine V.iload_n d_Fo_isSound_14 rfl ?_
    obtain ⟨g2, hq⟩ := hq
    obtain ⟨g3, hq⟩ := hq
    refine V.aaload d_Fo_isSound_15 g2 g3 ?_
    replace hq := hq _ rfl
    refine V.astore_n (l' := [_, _, _]) d_Fo_isSound_16 rfl (ltb rfl) ?_
    refine V.aload_n d_Fo_isSound_17 rfl ?_
    refine V.callI d_Fo_isSound_18 (cS_call (as := [_]) (rs := []) rfl rfl ⟨leb rfl, leb rfl⟩) hq (fun v5 h6 hq => ?_)
    refine V.if_eq (t := 43) d_Fo_isSound_21 ⟨rfl, rfl⟩ (fun hc => ?_) (fun hc => ?_)
    · replace hq := ifp hc hq
      refine V.iconst (x := 0) d_Fo_isSound_43 (by decide) ?_
      refine V.zret (y := (0 : Int32)) d_Fo_isSound_44 rfl (by decide) ?_
      exact V.rI hq
    · replace hq := ifn hc hq
      refine V.aload_n d_Fo_isSound_24 rfl ?_
      obtain ⟨g8, hq⟩ := hq
      refine V.get1 d_Fo_isSound_25 rfl (List.mem_singleton.mpr g8) ?_
      refine V.aload_n d_Fo_isSound_28 rfl ?_
      refine V.get1 d_Fo_isSound_29 rfl (List.mem_singleton.mpr g8) ?_
      refine V.lc_gt d_Fo_isSound_32 d_Fo_isSound_33 ⟨rfl, rfl⟩ (fun hc => ?_) (fun hc => ?_)
      · replace hq := ifp hc hq
        refine V.iconst (x := 0) d_Fo_isSound_43 (by decide) ?_
        refine V.zret (y := (0 : Int32)) d_Fo_isSound_44 rfl (by decide) ?_
        exact V.rI hq
      · replace hq := ifn hc hq
        refine V.aload_n d_Fo_isSound_36 rfl ?_
        refine V.callI d_Fo_isSound_37 (cS_call (as := [_]) (rs := []) rfl rfl ⟨leb rfl, leb rfl⟩) hq (fun v9 h10 hq => ?_)
        refine V.if_ne (t := 45) d_Fo_isSound_40 ⟨rfl, rfl⟩ (fun hc => ?_) (fun hc => ?_)
        · replace hq := ifp hc hq
          refine V.iconst (x := 0) d_Fo_isSound_43 (by decide) ?_
          refine V.zret (y := (0 : Int32)) d_Fo_isSound_44 rfl (by decide) ?_
          exact V.rI hq
        · replace hq := ifn hc hq
          replace hq := hq _ rfl
          refine V.iinc (l' := [_, _, _]) d_Fo_isSound_45 rfl (show _ + _ = _ + (1 : Int32) from rfl) rfl ?_
          refine V.goto (t := 2) d_Fo_isSound_48 ⟨rfl, rfl⟩ ?_
          exact hq
  · replace hq := ifn hc hq
    refine V.aload_n d_Fo_isSound_51 rfl ?_
    refine V.get0 d_Fo_isSound_52 rfl (List.mem_singleton.mpr g1) ?_
    refine V.iconst (x := 1) d_Fo_isSound_55 (by decide) ?_
    refine V.isub d_Fo_isSound_56 ?_
    replace hq := hq _ rfl
    refine V.istore_n (l' := [_, _, _]) d_Fo_isSound_57 rfl (ltb rfl) ?_
    exact hq
theorem w_Fo_isSound_58 {d : Nat} {K : Int32 → Hp → Prop} {x0 : Nat} {x1 : Int32} {y2 : Option Value} {h0 : Hp} (hq :
  (if x1 < 0 then K (1 : Int32) h0 else ((hS h0 x0).1 = 3 ∧ ((hS h0 (hR h0 x0 0)).1 = 24 ∧ (ainr x1 (hS h0 (hR h0 x0 0)).2 = true ∧ Ca d m_Fo_measure [.ref (hR h0 (hR h0 x0 0) x1.toNatClampNeg)] h0 (QV (fun h17 => ((hS h17 x0).1 = 3 ∧ ((hS h17 (hR h17 x0 0)).1 = 24 ∧ (ainr x1 (hS h17 (hR h17 x0 0)).2 = true ∧ ((hS h17 (hR h17 (hR h17 x0 0) x1.toNatClampNeg)).1 = 2 ∧ (if (1000 : Int64) < (hL h17 (hR h17 (hR h17 x0 0) x1.toNatClampNeg) 14) then K (0 : Int32) h17 else Ca d m_Fo_repeatsFittingly [.ref (hR h17 (hR h17 x0 0) x1.toNatClampNeg)] h17 (QI (fun v23 h24 => (if v23 = 0 then K (0 : Int32) h24 else (∀ v26 : Int32, v26 = (x1 + (-1)) → Wp (d + 1) m_Fo_isSound 58 [some (.ref x0), some (.int v26), y2] [] h24 (QI K))))))))))))))))) : Wp (d + 1) m_Fo_isSound 58 [some (.ref x0), some (.int x1), y2] [] h0 (QI K) := by
  refine V.iload_n d_Fo_isSound_58 rfl ?_
  refine V.if_lt (t := 107) d_Fo_isSound_59 ⟨rfl, rfl⟩ (fun hc => ?_) (fun hc => ?_)
  · replace hq := ifp hc hq
    refine V.iconst (x := 1) d_Fo_isSound_107 (by decide) ?_
    refine V.zret (y := (1 : Int32)) d_Fo_isSound_108 rfl (by decide) ?_
    exact V.rI hq
  · replace hq := ifn hc hq
    refine V.aload_n d_Fo_isSound_62 rfl ?_
    obtain ⟨g14, hq⟩ := hq
    refine V.get2 d_Fo_isSound_63 rfl (List.mem_singleton.mpr g14) ?_
    refine V.iload_n d_Fo_isSound_66 rfl ?_
    obtain ⟨g15, hq⟩ := hq
    obtain ⟨g16, hq⟩ := hq
    refine V.aaload d_Fo_isSound_67 g15 g16 ?_
    refine V.callV d_Fo_isSound_68 (cS_call (as := [_]) (rs := []) rfl rfl ⟨leb rfl, leb rfl⟩) hq (fun h17 hq => ?_)
    refine V.aload_n d_Fo_isSound_71 rfl ?_
    obtain ⟨g19, hq⟩ := hq
    refine V.get2 d_Fo_isSound_72 rfl (List.mem_singleton.mpr g19) ?_
    refine V.iload_n d_Fo_isSound_75 rfl ?_
    obtain ⟨g20, hq⟩ := hq
    obtain ⟨g21, hq⟩ := hq
    refine V.aaload d_Fo_isSound_76 g20 g21 ?_
    obtain ⟨g22, hq⟩ := hq
    refine V.get1 d_Fo_isSound_77 rfl (List.mem_singleton.mpr g22) ?_
    refine V.ldc2_w d_Fo_isSound_80 rfl ?_
    refine V.lc_gt d_Fo_isSound_83 d_Fo_isSound_84 ⟨rfl, rfl⟩ (fun hc => ?_) (fun hc => ?_)
    · replace hq := ifp hc hq
      refine V.iconst (x := 0) d_Fo_isSound_99 (by decide) ?_
      refine V.zret (y := (0 : Int32)) d_Fo_isSound_100 rfl (by decide) ?_
      exact V.rI hq
    · replace hq := ifn hc hq
      refine V.aload_n d_Fo_isSound_87 rfl ?_
      refine V.get2 d_Fo_isSound_88 rfl (List.mem_singleton.mpr g19) ?_
      refine V.iload_n d_Fo_isSound_91 rfl ?_
      refine V.aaload d_Fo_isSound_92 g20 g21 ?_
      refine V.callI d_Fo_isSound_93 (cS_call (as := [_]) (rs := []) rfl rfl ⟨leb rfl, leb rfl⟩) hq (fun v23 h24 hq => ?_)
      refine V.if_ne (t := 101) d_Fo_isSound_96 ⟨rfl, rfl⟩ (fun hc => ?_) (fun hc => ?_)
      · replace hq := ifp hc hq
        refine V.iconst (x := 0) d_Fo_isSound_99 (by decide) ?_
        refine V.zret (y := (0 : Int32)) d_Fo_isSound_100 rfl (by decide) ?_
        exact V.rI hq
      · replace hq := ifn hc hq
        replace hq := hq _ rfl
        refine V.iinc (l' := [_, _, _]) d_Fo_isSound_101 rfl (show _ + _ = _ + (-1 : Int32) from rfl) rfl ?_
        refine V.goto (t := 58) d_Fo_isSound_104 ⟨rfl, rfl⟩ ?_
        exact hq
theorem w_Fo_isInPlace {d : Nat} {K : Int32 → Hp → Prop} {x0 : Nat} {h0 : Hp} (hq :
  ((hS h0 x0).1 = 2 ∧ (if (hI h0 x0 0) = (112 : Int32) then Ca d m_No_isPartOf [.ref x0, .int (123 : Int32)] h0 (QI (fun v2 h3 => K (v2 &&& 1) h3)) else (if (hI h0 x0 0) = (114 : Int32) then (if (hR h0 x0 6) = 0 then K (1 : Int32) h0 else Ca d m_Fo_isLastOfWhole [.ref x0] h0 (QI (fun v5 h6 => (if v5 = 0 then K (0 : Int32) h6 else K (1 : Int32) h6)))) else K (1 : Int32) h0)))) : Ca (d + 1) m_Fo_isInPlace [.ref x0] h0 (QI K) := by
  show Wp _ _ 0 [some (.ref x0)] [] h0 _
  refine V.aload_n d_Fo_isInPlace_0 rfl ?_
  obtain ⟨g1, hq⟩ := hq
  refine V.get0 d_Fo_isInPlace_1 rfl (List.mem_singleton.mpr g1) ?_
  refine V.bipush (x := 112) d_Fo_isInPlace_4 (by decide) ?_
  refine V.ic_ne (t := 16) d_Fo_isInPlace_6 ⟨rfl, rfl⟩ (fun hc => ?_) (fun hc => ?_)
  · replace hq := ifp hc hq
    refine V.aload_n d_Fo_isInPlace_9 rfl ?_
    refine V.bipush (x := 123) d_Fo_isInPlace_10 (by decide) ?_
    refine V.callI d_Fo_isInPlace_12 (cV_call (t := [_]) (rs := []) rfl (Or.inl rfl) rfl (lk1 g1) ⟨leb rfl, leb rfl⟩) hq (fun v2 h3 hq => ?_)
    refine V.zret (y := _) d_Fo_isInPlace_15 rfl rfl ?_
    exact V.rI hq
  · replace hq := ifn hc hq
    refine V.aload_n d_Fo_isInPlace_16 rfl ?_
    refine V.get0 d_Fo_isInPlace_17 rfl (List.mem_singleton.mpr g1) ?_
    refine V.bipush (x := 114) d_Fo_isInPlace_20 (by decide) ?_
    refine V.ic_ne (t := 39) d_Fo_isInPlace_22 ⟨rfl, rfl⟩ (fun hc => ?_) (fun hc => ?_)
    · replace hq := ifp hc hq
      refine V.aload_n d_Fo_isInPlace_25 rfl ?_
      refine V.get2 d_Fo_isInPlace_26 rfl (List.mem_singleton.mpr g1) ?_
      refine V.ifnull (t := 39) d_Fo_isInPlace_29 ⟨rfl, rfl⟩ (fun hc => ?_) (fun hc => ?_)
      · replace hq := ifp hc hq
        refine V.iconst (x := 1) d_Fo_isInPlace_39 (by decide) ?_
        refine V.goto (t := 44) d_Fo_isInPlace_40 ⟨rfl, rfl⟩ ?_
        refine V.zret (y := (1 : Int32)) d_Fo_isInPlace_44 rfl (by decide) ?_
        exact V.rI hq
      · replace hq := ifn hc hq
        refine V.aload_n d_Fo_isInPlace_32 rfl ?_
        refine V.callI d_Fo_isInPlace_33 (cS_call (as := [_]) (rs := []) rfl rfl ⟨leb rfl, leb rfl⟩) hq (fun v5 h6 hq => ?_)
        refine V.if_eq (t := 43) d_Fo_isInPlace_36 ⟨rfl, rfl⟩ (fun hc => ?_) (fun hc => ?_)
        · replace hq := ifp hc hq
          refine V.iconst (x := 0) d_Fo_isInPlace_43 (by decide) ?_
          refine V.zret (y := (0 : Int32)) d_Fo_isInPlace_44 rfl (by decide) ?_
          exact V.rI hq
        · replace hq := ifn hc hq
          refine V.iconst (x := 1) d_Fo_isInPlace_39 (by decide) ?_
          refine V.goto (t := 44) d_Fo_isInPlace_40 ⟨rfl, rfl⟩ ?_
          refine V.zret (y := (1 : Int32)) d_Fo_isInPlace_44 rfl (by decide) ?_
          exact V.rI hq
    · replace hq := ifn hc hq
      refine V.iconst (x := 1) d_Fo_isInPlace_39 (by decide) ?_
      refine V.goto (t := 44) d_Fo_isInPlace_40 ⟨rfl, rfl⟩ ?_
      refine V.zret (y := (1 : Int32)) d_Fo_isInPlace_44 rfl (by decide) ?_
      exact V.rI hq
theorem w_Fo_isLastOfWhole {d : Nat} {K : Int32 → Hp → Prop} {x0 : Nat} {h0 : Hp} (hq :
  ((hS h0 x0).1 = 2 ∧ Ca d m_No_isPartOf [.ref x0, .int (123 : Int32)] h0 (QI (fun v2 h3 => (if v2 = 0 then K (0 : Int32) h3 else ((hS h3 x0).1 = 2 ∧ ((hS h3 (hR h3 x0 6)).1 = 2 ∧ (if (hR h3 (hR h3 x0 6) 6) = 0 then (if (hR h3 x0 8) = 0 then K (1 : Int32) h3 else K (0 : Int32) h3) else K (0 : Int32) h3)))))))) : Ca (d + 1) m_Fo_isLastOfWhole [.ref x0] h0 (QI K) := by
  show Wp _ _ 0 [some (.ref x0)] [] h0 _
  refine V.aload_n d_Fo_isLastOfWhole_0 rfl ?_
  refine V.bipush (x := 123) d_Fo_isLastOfWhole_1 (by decide) ?_
  obtain ⟨g1, hq⟩ := hq
  refine V.callI d_Fo_isLastOfWhole_3 (cV_call (t := [_]) (rs := []) rfl (Or.inl rfl) rfl (lk1 g1) ⟨leb rfl, leb rfl⟩) hq (fun v2 h3 hq => ?_)
  refine V.if_eq (t := 30) d_Fo_isLastOfWhole_6 ⟨rfl, rfl⟩ (fun hc => ?_) (fun hc => ?_)
  · replace hq := ifp hc hq
    refine V.iconst (x := 0) d_Fo_isLastOfWhole_30 (by decide) ?_
    refine V.zret (y := (0 : Int32)) d_Fo_isLastOfWhole_31 rfl (by decide) ?_
    exact V.rI hq
  · replace hq := ifn hc hq
    refine V.aload_n d_Fo_isLastOfWhole_9 rfl ?_
    obtain ⟨g5, hq⟩ := hq
    refine V.get2 d_Fo_isLastOfWhole_10 rfl (List.mem_singleton.mpr g5) ?_
    obtain ⟨g6, hq⟩ := hq
    refine V.get2 d_Fo_isLastOfWhole_13 rfl (List.mem_singleton.mpr g6) ?_
    refine V.ifnonnull (t := 30) d_Fo_isLastOfWhole_16 ⟨rfl, rfl⟩ (fun hc => ?_) (fun hc => ?_)
    · replace hq := ifp hc hq
      refine V.aload_n d_Fo_isLastOfWhole_19 rfl ?_
      refine V.get2 d_Fo_isLastOfWhole_20 rfl (List.mem_singleton.mpr g5) ?_
      refine V.ifnonnull (t := 30) d_Fo_isLastOfWhole_23 ⟨rfl, rfl⟩ (fun hc => ?_) (fun hc => ?_)
      · replace hq := ifp hc hq
        refine V.iconst (x := 1) d_Fo_isLastOfWhole_26 (by decide) ?_
        refine V.goto (t := 31) d_Fo_isLastOfWhole_27 ⟨rfl, rfl⟩ ?_
        refine V.zret (y := (1 : Int32)) d_Fo_isLastOfWhole_31 rfl (by decide) ?_
        exact V.rI hq
      · replace hq := ifn hc hq
        refine V.iconst (x := 0) d_Fo_isLastOfWhole_30 (by decide) ?_
        refine V.zret (y := (0 : Int32)) d_Fo_isLastOfWhole_31 rfl (by decide) ?_
        exact V.rI hq
    · replace hq := ifn hc hq
      refine V.iconst (x := 0) d_Fo_isLastOfWhole_30 (by decide) ?_
      refine V.zret (y := (0 : Int32)) d_Fo_isLastOfWhole_31 rfl (by decide) ?_
      exact V.rI hq
theorem w_Fo_findMeaning {d : Nat} {K : Int32 → Hp → Prop} {x0 : Nat} {h0 : Hp} (hq :
  ((hS h0 x0).1 = 2 ∧ Ca d m_No_hasKey [.ref x0] h0 (QI (fun v2 h3 => (if v2 = 0 then K (1 : Int32) h3 else Ca d m_Fo_fieldMeantIn [.ref x0] h3 (QR (fun v5 h6 => ((hS h6 x0).1 = 2 ∧ (∀ h9 : Hp, h9 = sR h6 x0 5 v5 → (if (hR h9 x0 5) = 0 then K (0 : Int32) h9 else (if (hI h9 x0 0) = (63 : Int32) then Ca d m_Fo_hasGoodFigures [.ref x0] h9 (QI (fun v10 h11 => (if v10 = 0 then K (0 : Int32) h11 else K (1 : Int32) h11))) else K (1 : Int32) h9))))))))))) : Ca (d + 1) m_Fo_findMeaning [.ref x0] h0 (QI K) := by
  show Wp _ _ 0 [some (.ref x0)] [] h0 _
  refine V.aload_n d_Fo_findMeaning_0 rfl ?_
  obtain ⟨g1, hq⟩ := hq
  refine V.callI d_Fo_findMeaning_1 (cV_call (t := []) (rs := []) rfl (Or.inl rfl) rfl (lk1 g1) ⟨leb rfl, leb rfl⟩) hq (fun v2 h3 hq => ?_)
  refine V.if_ne (t := 9) d_Fo_findMeaning_4 ⟨rfl, rfl⟩ (fun hc => ?_) (fun hc => ?_)
  · replace hq := ifp hc hq
    refine V.iconst (x := 1) d_Fo_findMeaning_7 (by decide) ?_
    refine V.zret (y := (1 : Int32)) d_Fo_findMeaning_8 rfl (by decide) ?_
    exact V.rI hq
  · replace hq := ifn hc hq
    refine V.aload_n d_Fo_findMeaning_9 rfl ?_
    refine V.aload_n d_Fo_findMeaning_10 rfl ?_
    refine V.callR d_Fo_findMeaning_11 (cS_call (as := [_]) (rs := [_]) rfl rfl ⟨leb rfl, leb rfl⟩) hq (fun v5 h6 hq => ?_)
    obtain ⟨g8, hq⟩ := hq
    refine V.put2 d_Fo_findMeaning_14 rfl (Or.inl rfl) (List.mem_singleton.mpr g8) ?_
    replace hq := hq _ rfl
    refine V.aload_n d_Fo_findMeaning_17 rfl ?_
    refine V.get2 d_Fo_findMeaning_18 rfl (List.mem_singleton.mpr g8) ?_
    refine V.ifnonnull (t := 26) d_Fo_findMeaning_21 ⟨rfl, rfl⟩ (fun hc => ?_) (fun hc => ?_)
    · replace hq := ifp hc hq
      refine V.iconst (x := 0) d_Fo_findMeaning_24 (by decide) ?_
      refine V.zret (y := (0 : Int32)) d_Fo_findMeaning_25 rfl (by decide) ?_
      exact V.rI hq
    · replace hq := ifn hc hq
      refine V.aload_n d_Fo_findMeaning_26 rfl ?_
      refine V.get0 d_Fo_findMeaning_27 rfl (List.mem_singleton.mpr g8) ?_
      refine V.bipush (x := 63) d_Fo_findMeaning_30 (by decide) ?_
      refine V.ic_ne (t := 42) d_Fo_findMeaning_32 ⟨rfl, rfl⟩ (fun hc => ?_) (fun hc => ?_)
      · replace hq := ifp hc hq
        refine V.aload_n d_Fo_findMeaning_35 rfl ?_
        refine V.callI d_Fo_findMeaning_36 (cS_call (as := [_]) (rs := []) rfl rfl ⟨leb rfl, leb rfl⟩) hq (fun v10 h11 hq => ?_)
        refine V.if_eq (t := 46) d_Fo_findMeaning_39 ⟨rfl, rfl⟩ (fun hc => ?_) (fun hc => ?_)
        · replace hq := ifp hc hq
          refine V.iconst (x := 0) d_Fo_findMeaning_46 (by decide) ?_
          refine V.zret (y := (0 : Int32)) d_Fo_findMeaning_47 rfl (by decide) ?_
          exact V.rI hq
        · replace hq := ifn hc hq
          refine V.iconst (x := 1) d_Fo_findMeaning_42 (by decide) ?_
          refine V.goto (t := 47) d_Fo_findMeaning_43 ⟨rfl, rfl⟩ ?_
          refine V.zret (y := (1 : Int32)) d_Fo_findMeaning_47 rfl (by decide) ?_
          exact V.rI hq
      · replace hq := ifn hc hq
        refine V.iconst (x := 1) d_Fo_findMeaning_42 (by decide) ?_
        refine V.goto (t := 47) d_Fo_findMeaning_43 ⟨rfl, rfl⟩ ?_
        refine V.zret (y := (1 : Int32)) d_Fo_findMeaning_47 rfl (by decide) ?_
        exact V.rI hq
theorem w_Fo_fieldMeantIn {d : Nat} {K : Nat → Hp → Prop} {x0 : Nat} {h0 : Hp} (hq :
  Wp (d + 1) m_Fo_fieldMeantIn 2 [some (.ref x0), some (.ref x0), none] [] h0 (QR K)) : Ca (d + 1) m_Fo_fieldMeantIn [.ref x0] h0 (QR K) := by
  show Wp _ _ 0 [some (.ref x0), none, none] [] h0 _
  refine V.aload_n d_Fo_fieldMeantIn_0 rfl ?_
  refine V.astore_n (l' := [_, _, _]) d_Fo_fieldMeantIn_1 rfl (ltb rfl) ?_
  exact hq
theorem w_Fo_fieldMeantIn_2 {d : Nat} {K : Nat → Hp → Prop} {x0 : Nat} {x1 : Nat} {y2 : Option Value} {h0 : Hp} (hq :
  (if x1 = 0 then K 0 h0 else ((hS h0 x1).1 = 2 ∧ Ca d m_No_isPartOf [.ref x1, .int (123 : Int32)] h0 (QI (fun v2 h3 => (if v2 = 0 then ((hS h3 x1).1 = 2 ∧ (∀ v6 : Nat, v6 = (hR h3 x1 6) → Wp (d + 1) m_Fo_fieldMeantIn 2 [some (.ref x0), some (.ref v6), y2] [] h3 (QR K))) else ((hS h3 x0).1 = 2 ∧ Ca d m_Fo_latestBefore [.ref x1, .int (hI h3 x0 4)] h3 (QR (fun v8 h9 => (if v8 = 0 then ((hS h9 x1).1 = 2 ∧ (∀ v12 : Nat, v12 = (hR h9 x1 6) → Wp (d + 1) m_Fo_fieldMeantIn 2 [some (.ref x0), some (.ref v12), some (.ref v8)] [] h9 (QR K))) else K v8 h9)))))))))) : Wp (d + 1) m_Fo_fieldMeantIn 2 [some (.ref x0), some (.ref x1), y2] [] h0 (QR K) := by
  refine V.aload_n d_Fo_fieldMeantIn_2 rfl ?_
  refine V.ifnull (t := 38) d_Fo_fieldMeantIn_3 ⟨rfl, rfl⟩ (fun hc => ?_) (fun hc => ?_)
  · replace hq := ifp hc hq
    refine V.aconst_null d_Fo_fieldMeantIn_38 ?_
    refine V.aret d_Fo_fieldMeantIn_39 rfl ?_
    exact V.rR hq
  · replace hq := ifn hc hq
    refine V.aload_n d_Fo_fieldMeantIn_6 rfl ?_
    refine V.bipush (x := 123) d_Fo_fieldMeantIn_7 (by decide) ?_
    obtain ⟨g1, hq⟩ := hq
    refine V.callI d_Fo_fieldMeantIn_9 (cV_call (t := [_]) (rs := []) rfl (Or.inl rfl) rfl (lk1 g1) ⟨leb rfl, leb rfl⟩) hq (fun v2 h3 hq => ?_)
    refine V.if_eq (t := 30) d_Fo_fieldMeantIn_12 ⟨rfl, rfl⟩ (fun hc => ?_) (fun hc => ?_)
    · replace hq := ifp hc hq
      refine V.aload_n d_Fo_fieldMeantIn_30 rfl ?_
      obtain ⟨g5, hq⟩ := hq
      refine V.get2 d_Fo_fieldMeantIn_31 rfl (List.mem_singleton.mpr g5) ?_
      replace hq := hq _ rfl
      refine V.astore_n (l' := [_, _, _]) d_Fo_fieldMeantIn_34 rfl (ltb rfl) ?_
      refine V.goto (t := 2) d_Fo_fieldMeantIn_35 ⟨rfl, rfl⟩ ?_
      exact hq
    · replace hq := ifn hc hq
      refine V.aload_n d_Fo_fieldMeantIn_15 rfl ?_
      refine V.aload_n d_Fo_fieldMeantIn_16 rfl ?_
      obtain ⟨g7, hq⟩ := hq
      refine V.get0 d_Fo_fieldMeantIn_17 rfl (List.mem_singleton.mpr g7) ?_
      refine V.callR d_Fo_fieldMeantIn_20 (cS_call (as := [_, _]) (rs := []) rfl rfl ⟨leb rfl, leb rfl⟩) hq (fun v8 h9 hq => ?_)
      refine V.astore_n (l' := [_, _, _]) d_Fo_fieldMeantIn_23 rfl (ltb rfl) ?_
      refine V.aload_n d_Fo_fieldMeantIn_24 rfl ?_
      refine V.ifnull (t := 30) d_Fo_fieldMeantIn_25 ⟨rfl, rfl⟩ (fun hc => ?_) (fun hc => ?_)
      · replace hq := ifp hc hq
        refine V.aload_n d_Fo_fieldMeantIn_30 rfl ?_
        obtain ⟨g11, hq⟩ := hq
        refine V.get2 d_Fo_fieldMeantIn_31 rfl (List.mem_singleton.mpr g11) ?_
        replace hq := hq _ rfl
        refine V.astore_n (l' := [_, _, _]) d_Fo_fieldMeantIn_34 rfl (ltb rfl) ?_
        refine V.goto (t := 2) d_Fo_fieldMeantIn_35 ⟨rfl, rfl⟩ ?_
        exact hq
      · replace hq := ifn hc hq
        refine V.aload_n d_Fo_fieldMeantIn_28 rfl ?_
        refine V.aret d_Fo_fieldMeantIn_29 rfl ?_
        exact V.rR hq
theorem w_Fo_latestBefore {d : Nat} {K : Nat → Hp → Prop} {x0 : Nat} {x1 : Int32} {h0 : Hp} (hq :
  ((hS h0 x0).1 = 2 ∧ (∀ v2 : Nat, v2 = (hR h0 x0 7) → Wp (d + 1) m_Fo_latestBefore 5 [some (.ref x0), some (.int x1), some (.ref v2)] [] h0 (QR K)))) : Ca (d + 1) m_Fo_latestBefore [.ref x0, .int x1] h0 (QR K) := by
  show Wp _ _ 0 [some (.ref x0), some (.int x1), none] [] h0 _
  refine V.aload_n d_Fo_latestBefore_0 rfl ?_
  obtain ⟨g1, hq⟩ := hq
  refine V.get2 d_Fo_latestBefore_1 rfl (List.mem_singleton.mpr g1) ?_
  replace hq := hq _ rfl
  refine V.astore_n (l' := [_, _, _]) d_Fo_latestBefore_4 rfl (ltb rfl) ?_
  exact hq
theorem w_Fo_latestBefore_5 {d : Nat} {K : Nat → Hp → Prop} {y0 : Option Value} {x1 : Int32} {x2 : Nat} {h0 : Hp} (hq :
  (if x2 = 0 then K 0 h0 else ((hS h0 x2).1 = 2 ∧ (if (hI h0 x2 2) = x1 then Ca d m_No_canBeMeant [.ref x2] h0 (QI (fun v4 h5 => (if v4 = 0 then ((hS h5 x2).1 = 2 ∧ (∀ v8 : Nat, v8 = (hR h5 x2 7) → Wp (d + 1) m_Fo_latestBefore 5 [y0, some (.int x1), some (.ref v8)] [] h5 (QR K))) else K x2 h5))) else (∀ v9 : Nat, v9 = (hR h0 x2 7) → Wp (d + 1) m_Fo_latestBefore 5 [y0, some (.int x1), some (.ref v9)] [] h0 (QR K)))))) : Wp (d + 1) m_Fo_latestBefore 5 [y0, some (.int x1), some (.ref x2)] [] h0 (QR K) := by
  refine V.aload_n d_Fo_latestBefore_5 rfl ?_
  refine V.ifnull (t := 34) d_Fo_latestBefore_6 ⟨rfl, rfl⟩ (fun hc => ?_) (fun hc => ?_)
  · replace hq := ifp hc hq
    refine V.aconst_null d_Fo_latestBefore_34 ?_
    refine V.aret d_Fo_latestBefore_35 rfl ?_
    exact V.rR hq
  · replace hq := ifn hc hq
    refine V.aload_n d_Fo_latestBefore_9 rfl ?_
    obtain ⟨g3, hq⟩ := hq
    refine V.get0 d_Fo_latestBefore_10 rfl (List.mem_singleton.mpr g3) ?_
    refine V.iload_n d_Fo_latestBefore_13 rfl ?_
    refine V.ic_ne (t := 26) d_Fo_latestBefore_14 ⟨rfl, rfl⟩ (fun hc => ?_) (fun hc => ?_)
    · replace hq := ifp hc hq
      refine V.aload_n d_Fo_latestBefore_17 rfl ?_
      refine V.callI d_Fo_latestBefore_18 (cV_call (t := []) (rs := []) rfl (Or.inl rfl) rfl (lk1 g3) ⟨leb rfl, leb rfl⟩) hq (fun v4 h5 hq => ?_)
      refine V.if_eq (t := 26) d_Fo_latestBefore_21 ⟨rfl, rfl⟩ (fun hc => ?_) (fun hc => ?_)
      · replace hq := ifp hc hq
        refine V.aload_n d_Fo_latestBefore_26 rfl ?_
        obtain ⟨g7, hq⟩ := hq
        refine V.get2 d_Fo_latestBefore_27 rfl (List.mem_singleton.mpr g7) ?_
        replace hq := hq _ rfl
        refine V.astore_n (l' := [_, _, _]) d_Fo_latestBefore_30 rfl (ltb rfl) ?_
        refine V.goto (t := 5) d_Fo_latestBefore_31 ⟨rfl, rfl⟩ ?_
        exact hq
      · replace hq := ifn hc hq
        refine V.aload_n d_Fo_latestBefore_24 rfl ?_
        refine V.aret d_Fo_latestBefore_25 rfl ?_
        exact V.rR hq
    · replace hq := ifn hc hq
      refine V.aload_n d_Fo_latestBefore_26 rfl ?_
      refine V.get2 d_Fo_latestBefore_27 rfl (List.mem_singleton.mpr g3) ?_
      replace hq := hq _ rfl
      refine V.astore_n (l' := [_, _, _]) d_Fo_latestBefore_30 rfl (ltb rfl) ?_
      refine V.goto (t := 5) d_Fo_latestBefore_31 ⟨rfl, rfl⟩ ?_
      exact hq
theorem w_Fo_hasGoodFigures {d : Nat} {K : Int32 → Hp → Prop} {x0 : Nat} {h0 : Hp} (hq :
  ((hS h0 x0).1 = 2 ∧ (∀ v2 : Nat, v2 = (hR h0 x0 9) → Wp (d + 1) m_Fo_hasGoodFigures 5 [some (.ref x0), some (.ref v2), none] [] h0 (QI K)))) : Ca (d + 1) m_Fo_hasGoodFigures [.ref x0] h0 (QI K) := by
  show Wp _ _ 0 [some (.ref x0), none, none] [] h0 _
  refine V.aload_n d_Fo_hasGoodFigures_0 rfl ?_
  obtain ⟨g1, hq⟩ := hq
  refine V.get2 d_Fo_hasGoodFigures_1 rfl (List.mem_singleton.mpr g1) ?_
  replace hq := hq _ rfl
  refine V.astore_n (l' := [_, _, _]) d_Fo_hasGoodFigures_4 rfl (ltb rfl) ?_
  exact hq
theorem w_Fo_hasGoodFigures_5 {d : Nat} {K : Int32 → Hp → Prop} {x0 : Nat} {x1 : Nat} {y2 : Option Value} {h0 : Hp} (hq :
  (if x1 = 0 then K (1 : Int32) h0 else ((hS h0 x0).1 = 2 ∧ (if (hR h0 x0 5) = 0 then K (0 : Int32) h0 else ((hS h0 x1).1 = 2 ∧ ((hS h0 (hR h0 x0 5)).1 = 2 ∧ Ca d m_No_holds [.ref (hR h0 x0 5), .long ((hI h0 x1 3).toInt64)] h0 (QI (fun v6 h7 => (if v6 = 0 then K (0 : Int32) h7 else ((hS h7 x1).1 = 2 ∧ (∀ v10 : Nat, v10 = (hR h7 x1 7) → Wp (d + 1) m_Fo_hasGoodFigures 38 [some (.ref x0), some (.ref x1), some (.ref v10)] [] h7 (QI K)))))))))))) : Wp (d + 1) m_Fo_hasGoodFigures 5 [some (.ref x0), some (.ref x1), y2] [] h0 (QI K) := by
  refine V.aload_n d_Fo_hasGoodFigures_5 rfl ?_
  refine V.ifnull (t := 71) d_Fo_hasGoodFigures_6 ⟨rfl, rfl⟩ (fun hc => ?_) (fun hc => ?_)
  · replace hq := ifp hc hq
    refine V.iconst (x := 1) d_Fo_hasGoodFigures_71 (by decide) ?_
    refine V.zret (y := (1 : Int32)) d_Fo_hasGoodFigures_72 rfl (by decide) ?_
    exact V.rI hq
  · replace hq := ifn hc hq
    refine V.aload_n d_Fo_hasGoodFigures_9 rfl ?_
    obtain ⟨g3, hq⟩ := hq
    refine V.get2 d_Fo_hasGoodFigures_10 rfl (List.mem_singleton.mpr g3) ?_
    refine V.ifnull (t := 31) d_Fo_hasGoodFigures_13 ⟨rfl, rfl⟩ (fun hc => ?_) (fun hc => ?_)
    · replace hq := ifp hc hq
      refine V.iconst (x := 0) d_Fo_hasGoodFigures_31 (by decide) ?_
      refine V.zret (y := (0 : Int32)) d_Fo_hasGoodFigures_32 rfl (by decide) ?_
      exact V.rI hq
    · replace hq := ifn hc hq
      refine V.aload_n d_Fo_hasGoodFigures_16 rfl ?_
      refine V.get2 d_Fo_hasGoodFigures_17 rfl (List.mem_singleton.mpr g3) ?_
      refine V.aload_n d_Fo_hasGoodFigures_20 rfl ?_
      obtain ⟨g4, hq⟩ := hq
      refine V.get0 d_Fo_hasGoodFigures_21 rfl (List.mem_singleton.mpr g4) ?_
      refine V.i2l d_Fo_hasGoodFigures_24 ?_
      obtain ⟨g5, hq⟩ := hq
      refine V.callI d_Fo_hasGoodFigures_25 (cV_call (t := [_]) (rs := []) rfl (Or.inl rfl) rfl (lk1 g5) ⟨leb rfl, leb rfl⟩) hq (fun v6 h7 hq => ?_)
      refine V.if_ne (t := 33) d_Fo_hasGoodFigures_28 ⟨rfl, rfl⟩ (fun hc => ?_) (fun hc => ?_)
      · replace hq := ifp hc hq
        refine V.iconst (x := 0) d_Fo_hasGoodFigures_31 (by decide) ?_
        refine V.zret (y := (0 : Int32)) d_Fo_hasGoodFigures_32 rfl (by decide) ?_
        exact V.rI hq
      · replace hq := ifn hc hq
        refine V.aload_n d_Fo_hasGoodFigures_33 rfl ?_
        obtain ⟨g9, hq⟩ := hq
        refine V.get2 d_Fo_hasGoodFigures_34 rfl (List.mem_singleton.mpr g9) ?_
        replace hq := hq _ rfl
        refine V.astore_n (l' := [_, _, _]) d_Fo_hasGoodFigures_37 rfl (ltb rfl) ?_
        exact hq
theorem w_Fo_hasGoodFigures_38 {d : Nat} {K : Int32 → Hp → Prop} {x0 : Nat} {x1 : Nat} {x2 : Nat} {h0 : Hp} (hq :
  (if x2 = 0 then ((hS h0 x1).1 = 2 ∧ (∀ v12 : Nat, v12 = (hR h0 x1 8) → Wp (d + 1) m_Fo_hasGoodFigures 5 [some (.ref x0), some (.ref v12), some (.ref x2)] [] h0 (QI K))) else ((hS h0 x2).1 = 2 ∧ ((hS h0 x1).1 = 2 ∧ (if (hI h0 x2 3) = (hI h0 x1 3) then K (0 : Int32) h0 else (∀ v15 : Nat, v15 = (hR h0 x2 7) → Wp (d + 1) m_Fo_hasGoodFigures 38 [some (.ref x0), some (.ref x1), some (.ref v15)] [] h0 (QI K))))))) : Wp (d + 1) m_Fo_hasGoodFigures 38 [some (.ref x0), some (.ref x1), some (.ref x2)] [] h0 (QI K) := by
  refine V.aload_n d_Fo_hasGoodFigures_38 rfl ?_
  refine V.ifnull (t := 63) d_Fo_hasGoodFigures_39 ⟨rfl, rfl⟩ (fun hc => ?_) (fun hc => ?_)
  · replace hq := ifp hc hq
    refine V.aload_n d_Fo_hasGoodFigures_63 rfl ?_
    obtain ⟨g11, hq⟩ := hq
    refine V.get2 d_Fo_hasGoodFigures_64 rfl (List.mem_singleton.mpr g11) ?_
    replace hq := hq _ rfl
    refine V.astore_n (l' := [_, _, _]) d_Fo_hasGoodFigures_67 rfl (ltb rfl) ?_
    refine V.goto (t := 5) d_Fo_hasGoodFigures_68 ⟨rfl, rfl⟩ ?_
    exact hq
  · replace hq := ifn hc hq
    refine V.aload_n d_Fo_hasGoodFigures_42 rfl ?_
    obtain ⟨g13, hq⟩ := hq
    refine V.get0 d_Fo_hasGoodFigures_43 rfl (List.mem_singleton.mpr g13) ?_
    refine V.aload_n d_Fo_hasGoodFigures_46 rfl ?_
    obtain ⟨g14, hq⟩ := hq
    refine V.get0 d_Fo_hasGoodFigures_47 rfl (List.mem_singleton.mpr g14) ?_
    refine V.ic_ne (t := 55) d_Fo_hasGoodFigures_50 ⟨rfl, rfl⟩ (fun hc => ?_) (fun hc => ?_)
    · replace hq := ifp hc hq
      refine V.iconst (x := 0) d_Fo_hasGoodFigures_53 (by decide) ?_
      refine V.zret (y := (0 : Int32)) d_Fo_hasGoodFigures_54 rfl (by decide) ?_
      exact V.rI hq
    · replace hq := ifn hc hq
      refine V.aload_n d_Fo_hasGoodFigures_55 rfl ?_
      refine V.get2 d_Fo_hasGoodFigures_56 rfl (List.mem_singleton.mpr g13) ?_
      replace hq := hq _ rfl
      refine V.astore_n (l' := [_, _, _]) d_Fo_hasGoodFigures_59 rfl (ltb rfl) ?_
      refine V.goto (t := 38) d_Fo_hasGoodFigures_60 ⟨rfl, rfl⟩ ?_
      exact hq
theorem w_Fo_measure {d : Nat} {K : Hp → Prop} {x0 : Nat} {h0 : Hp} (hq :
  ((hS h0 x0).1 = 2 ∧ (if (hI h0 x0 0).toInt = 42 then Ca d m_Fo_measureArray [.ref x0] h0 (QV (fun h2 => K h2)) else (if (hI h0 x0 0).toInt = 47 then Ca d m_Fo_measureArray [.ref x0] h0 (QV (fun h4 => K h4)) else (if (hI h0 x0 0).toInt = 63 then Ca d m_Fo_measureChoice [.ref x0] h0 (QV (fun h6 => K h6)) else (if (hI h0 x0 0).toInt = 114 then (∀ h8 : Hp, h8 = sL h0 x0 13 (0 : Int64) → (∀ h9 : Hp, h9 = sL h8 x0 14 (120 : Int64) → K h9)) else (if (hI h0 x0 0).toInt = 122 then (∀ h10 : Hp, h10 = sL h0 x0 13 (1 : Int64) → (∀ h11 : Hp, h11 = sL h10 x0 14 (21 : Int64) → K h11)) else (if (hI h0 x0 0).toInt = 123 then Ca d m_Fo_measureStructure [.ref x0] h0 (QV (fun h12 => K h12)) else (∀ h14 : Hp, h14 = sL h0 x0 13 ((hI h0 x0 1).toInt64) → (∀ h15 : Hp, h15 = sL h14 x0 14 ((hI h14 x0 1).toInt64) → K h15)))))))))) : Ca (d + 1) m_Fo_measure [.ref x0] h0 (QV K) := by
  show Wp _ _ 0 [some (.ref x0)] [] h0 _
  refine V.aload_n d_Fo_measure_0 rfl ?_
  obtain ⟨g1, hq⟩ := hq
  refine V.get0 d_Fo_measure_1 rfl (List.mem_singleton.mpr g1) ?_
  refine V.lookup d_Fo_measure_4 ⟨rfl, rfl, rfl⟩ ?_
  refine swW_c (fun hc => ?_) (fun hc => ?_)
  · replace hq := ifp hc hq
    refine V.tg (t := 71) rfl ?_
    refine V.aload_n d_Fo_measure_71 rfl ?_
    refine V.callV d_Fo_measure_72 (cS_call (as := [_]) (rs := []) rfl rfl ⟨leb rfl, leb rfl⟩) hq (fun h2 hq => ?_)
    refine V.goto (t := 133) d_Fo_measure_75 ⟨rfl, rfl⟩ ?_
    refine V.vret d_Fo_measure_133 rfl ?_
    exact V.rV hq
  · replace hq := ifn hc hq
    refine swW_c (fun hc => ?_) (fun hc => ?_)
    · replace hq := ifp hc hq
      refine V.tg (t := 71) rfl ?_
      refine V.aload_n d_Fo_measure_71 rfl ?_
      refine V.callV d_Fo_measure_72 (cS_call (as := [_]) (rs := []) rfl rfl ⟨leb rfl, leb rfl⟩) hq (fun h4 hq => ?_)
      refine V.goto (t := 133) d_Fo_measure_75 ⟨rfl, rfl⟩ ?_
      refine V.vret d_Fo_measure_133 rfl ?_
      exact V.rV hq
    · replace hq := ifn hc hq
      refine swW_c (fun hc => ?_) (fun hc => ?_)
      · replace hq := ifp hc hq
        refine V.tg (t := 78) rfl ?_
        refine V.aload_n d_Fo_measure_78 rfl ?_
        refine V.callV d_Fo_measure_79 (cS_call (as := [_]) (rs := []) rfl rfl ⟨leb rfl, leb rfl⟩) hq (fun h6 hq => ?_)
        refine V.goto (t := 133) d_Fo_measure_82 ⟨rfl, rfl⟩ ?_
        refine V.vret d_Fo_measure_133 rfl ?_
        exact V.rV hq
      · replace hq := ifn hc hq
        refine swW_c (fun hc => ?_) (fun hc => ?_)
        · replace hq := ifp hc hq
          refine V.tg (t := 100) rfl ?_
          refine V.aload_n d_Fo_measure_100 rfl ?_
          refine V.lconst (x := 0) d_Fo_measure_101 (by decide) ?_
          refine V.put1 d_Fo_measure_102 rfl (Or.inl rfl) (List.mem_singleton.mpr g1) ?_
          replace hq := hq _ rfl
          refine V.aload_n d_Fo_measure_105 rfl ?_
          refine V.ldc2_w d_Fo_measure_106 rfl ?_
          refine V.put1 d_Fo_measure_109 rfl (Or.inl rfl) (List.mem_singleton.mpr g1) ?_
          replace hq := hq _ rfl
          refine V.goto (t := 133) d_Fo_measure_112 ⟨rfl, rfl⟩ ?_
          refine V.vret d_Fo_measure_133 rfl ?_
          exact V.rV hq
        · replace hq := ifn hc hq
          refine swW_c (fun hc => ?_) (fun hc => ?_)
          · replace hq := ifp hc hq
            refine V.tg (t := 85) rfl ?_
            refine V.aload_n d_Fo_measure_85 rfl ?_
            refine V.lconst (x := 1) d_Fo_measure_86 (by decide) ?_
            refine V.put1 d_Fo_measure_87 rfl (Or.inl rfl) (List.mem_singleton.mpr g1) ?_
            replace hq := hq _ rfl
            refine V.aload_n d_Fo_measure_90 rfl ?_
            refine V.ldc2_w d_Fo_measure_91 rfl ?_
            refine V.put1 d_Fo_measure_94 rfl (Or.inl rfl) (List.mem_singleton.mpr g1) ?_
            replace hq := hq _ rfl
            refine V.goto (t := 133) d_Fo_measure_97 ⟨rfl, rfl⟩ ?_
            refine V.vret d_Fo_measure_133 rfl ?_
            exact V.rV hq
          · replace hq := ifn hc hq
            refine swW_c (fun hc => ?_) (fun hc => ?_)
            · replace hq := ifp hc hq
              refine V.tg (t := 64) rfl ?_
              refine V.aload_n d_Fo_measure_64 rfl ?_
              refine V.callV d_Fo_measure_65 (cS_call (as := [_]) (rs := []) rfl rfl ⟨leb rfl, leb rfl⟩) hq (fun h12 hq => ?_)
              refine V.goto (t := 133) d_Fo_measure_68 ⟨rfl, rfl⟩ ?_
              refine V.vret d_Fo_measure_133 rfl ?_
              exact V.rV hq
            · replace hq := ifn hc hq
              refine V.tg (t := 115) rfl ?_
              refine V.aload_n d_Fo_measure_115 rfl ?_
              refine V.aload_n d_Fo_measure_116 rfl ?_
              refine V.get0 d_Fo_measure_117 rfl (List.mem_singleton.mpr g1) ?_
              refine V.i2l d_Fo_measure_120 ?_
              refine V.put1 d_Fo_measure_121 rfl (Or.inl rfl) (List.mem_singleton.mpr g1) ?_
              replace hq := hq _ rfl
              refine V.aload_n d_Fo_measure_124 rfl ?_
              refine V.aload_n d_Fo_measure_125 rfl ?_
              refine V.get0 d_Fo_measure_126 rfl (List.mem_singleton.mpr g1) ?_
              refine V.i2l d_Fo_measure_129 ?_
              refine V.put1 d_Fo_measure_130 rfl (Or.inl rfl) (List.mem_singleton.mpr g1) ?_
              replace hq := hq _ rfl
              refine V.vret d_Fo_measure_133 rfl ?_
              exact V.rV hq
theorem w_Fo_measureStructure {d : Nat} {K : Hp → Prop} {x0 : Nat} {h0 : Hp} (hq :
  ((hS h0 x0).1 = 2 ∧ (∀ v2 : Nat, v2 = (hR h0 x0 9) → Wp (d + 1) m_Fo_measureStructure 13 [some (.ref x0), some (.long (0 : Int64)), none, some (.long (0 : Int64)), none, some (.int (0 : Int32)), some (.ref v2)] [] h0 (QV K)))) : Ca (d + 1) m_Fo_measureStructure [.ref x0] h0 (QV K) := by
  show Wp _ _ 0 [some (.ref x0), none, none, none, none, none, none] [] h0 _
  refine V.lconst (x := 0) d_Fo_measureStructure_0 (by decide) ?_
  refine V.lstore_n (l' := [_, _, _, _, _, _, _]) d_Fo_measureStructure_1 rfl (ltb rfl) ?_
  refine V.lconst (x := 0) d_Fo_measureStructure_2 (by decide) ?_
  refine V.lstore_n (l' := [_, _, _, _, _, _, _]) d_Fo_measureStructure_3 rfl (ltb rfl) ?_
  refine V.iconst (x := 0) d_Fo_measureStructure_4 (by decide) ?_
  refine V.istore (l' := [_, _, _, _, _, _, _]) d_Fo_measureStructure_5 rfl (ltb rfl) ?_
  refine V.aload_n d_Fo_measureStructure_7 rfl ?_
  obtain ⟨g1, hq⟩ := hq
  refine V.get2 d_Fo_measureStructure_8 rfl (List.mem_singleton.mpr g1) ?_
  replace hq := hq _ rfl
  refine V.astore (l' := [_, _, _, _, _, _, _]) d_Fo_measureStructure_11 rfl (ltb rfl) ?_
  exact hq
theorem w_Fo_measureStructure_13 {d : Nat} {K : Hp → Prop} {x0 : Nat} {x1 : Int64} {x3 : Int64} {x5 : Int32} {x6 : Nat} {h0 : Hp} (hq :
  (if x6 = 0 then Ca d m_Fo_bytesFor [.int x5] h0 (QI (fun v3 h4 => ((hS h4 x0).1 = 2 ∧ (∀ h7 : Hp, h7 = sL h4 x0 13 (x1 + (v3.toInt64)) → Ca d m_Fo_bytesFor [.int x5] h7 (QI (fun v8 h9 => ((hS h9 x0).1 = 2 ∧ (∀ h12 : Hp, h12 = sL h9 x0 14 (x3 + (v8.toInt64)) → K h12)))))))) else ((hS h0 x6).1 = 2 ∧ (if (hI h0 x6 0) = (112 : Int32) then (∀ v14 : Int32, v14 = (x5 + (hI h0 x6 1)) → (∀ v15 : Nat, v15 = (hR h0 x6 8) → Wp (d + 1) m_Fo_measureStructure 13 [some (.ref x0), some (.long x1), none, some (.long x3), none, some (.int v14), some (.ref v15)] [] h0 (QV K))) else Ca d m_Fo_bytesFor [.int x5] h0 (QI (fun v16 h17 => ((hS h17 x6).1 = 2 ∧ (∀ v20 : Int64, v20 = (x1 + ((v16.toInt64) + (hL h17 x6 13))) → Ca d m_Fo_bytesFor [.int x5] h17 (QI (fun v21 h22 => ((hS h22 x6).1 = 2 ∧ (∀ v25 : Int64, v25 = (x3 + ((v21.toInt64) + (hL h22 x6 14))) → (∀ v26 : Nat, v26 = (hR h22 x6 8) → Wp (d + 1) m_Fo_measureStructure 13 [some (.ref x0), some (.long v20), none, some (.long v25), none, some (.int (0 : Int32)), some (.ref v26)] [] h22 (QV K)))))))))))))) : Wp (d + 1) m_Fo_measureStructure 13 [some (.ref x0), some (.long x1), none, some (.long x3), none, some (.int x5), some (.ref x6)] [] h0 (QV K) := by
  refine V.aload d_Fo_measureStructure_13 rfl ?_
  refine V.ifnull (t := 84) d_Fo_measureStructure_15 ⟨rfl, rfl⟩ (fun hc => ?_) (fun hc => ?_)
  · replace hq := ifp hc hq
    refine V.aload_n d_Fo_measureStructure_84 rfl ?_
    refine V.lload_n d_Fo_measureStructure_85 rfl ?_
    refine V.iload d_Fo_measureStructure_86 rfl ?_
    refine V.callI d_Fo_measureStructure_88 (cS_call (as := [_]) (rs := [_, _]) rfl rfl ⟨leb rfl, leb rfl⟩) hq (fun v3 h4 hq => ?_)
    refine V.i2l d_Fo_measureStructure_91 ?_
    refine V.ladd d_Fo_measureStructure_92 ?_
    obtain ⟨g6, hq⟩ := hq
    refine V.put1 d_Fo_measureStructure_93 rfl (Or.inl rfl) (List.mem_singleton.mpr g6) ?_
    replace hq := hq _ rfl
    refine V.aload_n d_Fo_measureStructure_96 rfl ?_
    refine V.lload_n d_Fo_measureStructure_97 rfl ?_
    refine V.iload d_Fo_measureStructure_98 rfl ?_
    refine V.callI d_Fo_measureStructure_100 (cS_call (as := [_]) (rs := [_, _]) rfl rfl ⟨leb rfl, leb rfl⟩) hq (fun v8 h9 hq => ?_)
    refine V.i2l d_Fo_measureStructure_103 ?_
    refine V.ladd d_Fo_measureStructure_104 ?_
    obtain ⟨g11, hq⟩ := hq
    refine V.put1 d_Fo_measureStructure_105 rfl (Or.inl rfl) (List.mem_singleton.mpr g11) ?_
    replace hq := hq _ rfl
    refine V.vret d_Fo_measureStructure_108 rfl ?_
    exact V.rV hq
  · replace hq := ifn hc hq
    refine V.aload d_Fo_measureStructure_18 rfl ?_
    obtain ⟨g13, hq⟩ := hq
    refine V.get0 d_Fo_measureStructure_20 rfl (List.mem_singleton.mpr g13) ?_
    refine V.bipush (x := 112) d_Fo_measureStructure_23 (by decide) ?_
    refine V.ic_ne (t := 41) d_Fo_measureStructure_25 ⟨rfl, rfl⟩ (fun hc => ?_) (fun hc => ?_)
    · replace hq := ifp hc hq
      refine V.iload d_Fo_measureStructure_28 rfl ?_
      refine V.aload d_Fo_measureStructure_30 rfl ?_
      refine V.get0 d_Fo_measureStructure_32 rfl (List.mem_singleton.mpr g13) ?_
      refine V.iadd d_Fo_measureStructure_35 ?_
      replace hq := hq _ rfl
      refine V.istore (l' := [_, _, _, _, _, _, _]) d_Fo_measureStructure_36 rfl (ltb rfl) ?_
      refine V.goto (t := 74) d_Fo_measureStructure_38 ⟨rfl, rfl⟩ ?_
      refine V.aload d_Fo_measureStructure_74 rfl ?_
      refine V.get2 d_Fo_measureStructure_76 rfl (List.mem_singleton.mpr g13) ?_
      replace hq := hq _ rfl
      refine V.astore (l' := [_, _, _, _, _, _, _]) d_Fo_measureStructure_79 rfl (ltb rfl) ?_
      refine V.goto (t := 13) d_Fo_measureStructure_81 ⟨rfl, rfl⟩ ?_
      exact hq
    · replace hq := ifn hc hq
      refine V.lload_n d_Fo_measureStructure_41 rfl ?_
      refine V.iload d_Fo_measureStructure_42 rfl ?_
      refine V.callI d_Fo_measureStructure_44 (cS_call (as := [_]) (rs := [_]) rfl rfl ⟨leb rfl, leb rfl⟩) hq (fun v16 h17 hq => ?_)
      refine V.i2l d_Fo_measureStructure_47 ?_
      refine V.aload d_Fo_measureStructure_48 rfl ?_
      obtain ⟨g19, hq⟩ := hq
      refine V.get1 d_Fo_measureStructure_50 rfl (List.mem_singleton.mpr g19) ?_
      refine V.ladd d_Fo_measureStructure_53 ?_
      refine V.ladd d_Fo_measureStructure_54 ?_
      replace hq := hq _ rfl
      refine V.lstore_n (l' := [_, _, _, _, _, _, _]) d_Fo_measureStructure_55 rfl (ltb rfl) ?_
      refine V.lload_n d_Fo_measureStructure_56 rfl ?_
      refine V.iload d_Fo_measureStructure_57 rfl ?_
      refine V.callI d_Fo_measureStructure_59 (cS_call (as := [_]) (rs := [_]) rfl rfl ⟨leb rfl, leb rfl⟩) hq (fun v21 h22 hq => ?_)
      refine V.i2l d_Fo_measureStructure_62 ?_
      refine V.aload d_Fo_measureStructure_63 rfl ?_
      obtain ⟨g24, hq⟩ := hq
      refine V.get1 d_Fo_measureStructure_65 rfl (List.mem_singleton.mpr g24) ?_
      refine V.ladd d_Fo_measureStructure_68 ?_
      refine V.ladd d_Fo_measureStructure_69 ?_
      replace hq := hq _ rfl
      refine V.lstore_n (l' := [_, _, _, _, _, _, _]) d_Fo_measureStructure_70 rfl (ltb rfl) ?_
      refine V.iconst (x := 0) d_Fo_measureStructure_71 (by decide) ?_
      refine V.istore (l' := [_, _, _, _, _, _, _]) d_Fo_measureStructure_72 rfl (ltb rfl) ?_
      refine V.aload d_Fo_measureStructure_74 rfl ?_
      refine V.get2 d_Fo_measureStructure_76 rfl (List.mem_singleton.mpr g24) ?_
      replace hq := hq _ rfl
      refine V.astore (l' := [_, _, _, _, _, _, _]) d_Fo_measureStructure_79 rfl (ltb rfl) ?_
      refine V.goto (t := 13) d_Fo_measureStructure_81 ⟨rfl, rfl⟩ ?_
      exact hq
theorem w_Fo_bytesFor {d : Nat} {K : Int32 → Hp → Prop} {x0 : Int32} {h0 : Hp} (hq :
  K ((x0 + (7 : Int32)) / (8 : Int32)) h0) : Ca d m_Fo_bytesFor [.int x0] h0 (QI K) := by
  show Wp _ _ 0 [some (.int x0)] [] h0 _
  refine V.iload_n d_Fo_bytesFor_0 rfl ?_
  refine V.bipush (x := 7) d_Fo_bytesFor_1 (by decide) ?_
  refine V.iadd d_Fo_bytesFor_3 ?_
  refine V.bipush (x := 8) d_Fo_bytesFor_4 (by decide) ?_
  refine V.idiv d_Fo_bytesFor_6 (by decide) ?_
  refine V.iret d_Fo_bytesFor_7 rfl ?_
  exact V.rI hq
theorem w_Fo_measureArray {d : Nat} {K : Hp → Prop} {x0 : Nat} {h0 : Hp} (hq :
  ((hS h0 x0).1 = 2 ∧ (∀ v2 : Nat, v2 = (hR h0 x0 9) → (∀ v3 : Nat, v3 = (hR h0 x0 5) → (if v2 = 0 then K h0 else (if v3 = 0 then K h0 else ((hS h0 v3).1 = 2 ∧ (if (hI h0 x0 0) = (47 : Int32) then (∀ h5 : Hp, h5 = sL h0 x0 13 ((if (0 : Int64) < (hL h0 v3 11) then (hL h0 v3 11) else (0 : Int64)) * (1 : Int64)) → (if (hI h5 x0 0) = (47 : Int32) then (∀ h6 : Hp, h6 = sL h5 x0 14 ((if (0 : Int64) < (hL h5 v3 12) then (hL h5 v3 12) else (0 : Int64)) * (1 : Int64)) → K h6) else ((hS h0 v2).1 = 2 ∧ (∀ h8 : Hp, h8 = sL h5 x0 14 ((if (0 : Int64) < (hL h5 v3 12) then (hL h5 v3 12) else (0 : Int64)) * (hL h5 v2 14)) → K h8)))) else ((hS h0 v2).1 = 2 ∧ (∀ h10 : Hp, h10 = sL h0 x0 13 ((if (0 : Int64) < (hL h0 v3 11) then (hL h0 v3 11) else (0 : Int64)) * (hL h0 v2 13)) → (if (hI h10 x0 0) = (47 : Int32) then (∀ h11 : Hp, h11 = sL h10 x0 14 ((if (0 : Int64) < (hL h10 v3 12) then (hL h10 v3 12) else (0 : Int64)) * (1 : Int64)) → K h11) else (∀ h12 : Hp, h12 = sL h10 x0 14 ((if (0 : Int64) < (hL h10 v3 12) then (hL h10 v3 12) else (0 : Int64)) * (hL h10 v2 14)) → K h12)))))))))))) : Ca d m_Fo_measureArray [.ref x0] h0 (QV K) := by
  show Wp _ _ 0 [some (.ref x0), none, none] [] h0 _
  refine V.aload_n d_Fo_measureArray_0 rfl ?_
  obtain ⟨g1, hq⟩ := hq
  refine V.get2 d_Fo_measureArray_1 rfl (List.mem_singleton.mpr g1) ?_
  replace hq := hq _ rfl
  refine V.astore_n (l' := [_, _, _]) d_Fo_measureArray_4 rfl (ltb rfl) ?_
  refine V.aload_n d_Fo_measureArray_5 rfl ?_
  refine V.get2 d_Fo_measureArray_6 rfl (List.mem_singleton.mpr g1) ?_
  replace hq := hq _ rfl
  refine V.astore_n (l' := [_, _, _]) d_Fo_measureArray_9 rfl (ltb rfl) ?_
  refine V.aload_n d_Fo_measureArray_10 rfl ?_
  refine V.ifnull (t := 18) d_Fo_measureArray_11 ⟨rfl, rfl⟩ (fun hc => ?_) (fun hc => ?_)
  · replace hq := ifp hc hq
    refine V.vret d_Fo_measureArray_18 rfl ?_
    exact V.rV hq
  · replace hq := ifn hc hq
    refine V.aload_n d_Fo_measureArray_14 rfl ?_
    refine V.ifnonnull (t := 19) d_Fo_measureArray_15 ⟨rfl, rfl⟩ (fun hc => ?_) (fun hc => ?_)
    · replace hq := ifp hc hq
      refine V.vret d_Fo_measureArray_18 rfl ?_
      exact V.rV hq
    · replace hq := ifn hc hq
      refine V.aload_n d_Fo_measureArray_19 rfl ?_
      refine V.aload_n d_Fo_measureArray_20 rfl ?_
      obtain ⟨g4, hq⟩ := hq
      refine V.get1 d_Fo_measureArray_21 rfl (List.mem_singleton.mpr g4) ?_
      refine V.lconst (x := 0) d_Fo_measureArray_24 (by decide) ?_
      refine V.maxL d_Fo_measureArray_25 rfl (leb rfl) ?_
      refine V.aload_n d_Fo_measureArray_28 rfl ?_
      refine V.get0 d_Fo_measureArray_29 rfl (List.mem_singleton.mpr g1) ?_
      refine V.bipush (x := 47) d_Fo_measureArray_32 (by decide) ?_
      refine V.ic_ne (t := 41) d_Fo_measureArray_34 ⟨rfl, rfl⟩ (fun hc => ?_) (fun hc => ?_)
      · replace hq := ifp hc hq
        refine V.lconst (x := 1) d_Fo_measureArray_37 (by decide) ?_
        refine V.goto (t := 45) d_Fo_measureArray_38 ⟨rfl, rfl⟩ ?_
        refine V.lmul d_Fo_measureArray_45 ?_
        refine V.put1 d_Fo_measureArray_46 rfl (Or.inl rfl) (List.mem_singleton.mpr g1) ?_
        replace hq := hq _ rfl
        refine V.aload_n d_Fo_measureArray_49 rfl ?_
        refine V.aload_n d_Fo_measureArray_50 rfl ?_
        refine V.get1 d_Fo_measureArray_51 rfl (List.mem_singleton.mpr g4) ?_
        refine V.lconst (x := 0) d_Fo_measureArray_54 (by decide) ?_
        refine V.maxL d_Fo_measureArray_55 rfl (leb rfl) ?_
        refine V.aload_n d_Fo_measureArray_58 rfl ?_
        refine V.get0 d_Fo_measureArray_59 rfl (List.mem_singleton.mpr g1) ?_
        refine V.bipush (x := 47) d_Fo_measureArray_62 (by decide) ?_
        refine V.ic_ne (t := 71) d_Fo_measureArray_64 ⟨rfl, rfl⟩ (fun hc => ?_) (fun hc => ?_)
        · replace hq := ifp hc hq
          refine V.lconst (x := 1) d_Fo_measureArray_67 (by decide) ?_
          refine V.goto (t := 75) d_Fo_measureArray_68 ⟨rfl, rfl⟩ ?_
          refine V.lmul d_Fo_measureArray_75 ?_
          refine V.put1 d_Fo_measureArray_76 rfl (Or.inl rfl) (List.mem_singleton.mpr g1) ?_
          replace hq := hq _ rfl
          refine V.vret d_Fo_measureArray_79 rfl ?_
          exact V.rV hq
        · replace hq := ifn hc hq
          refine V.aload_n d_Fo_measureArray_71 rfl ?_
          obtain ⟨g7, hq⟩ := hq
          refine V.get1 d_Fo_measureArray_72 rfl (List.mem_singleton.mpr g7) ?_
          refine V.lmul d_Fo_measureArray_75 ?_
          refine V.put1 d_Fo_measureArray_76 rfl (Or.inl rfl) (List.mem_singleton.mpr g1) ?_
          replace hq := hq _ rfl
          refine V.vret d_Fo_measureArray_79 rfl ?_
          exact V.rV hq
      · replace hq := ifn hc hq
        refine V.aload_n d_Fo_measureArray_41 rfl ?_
        obtain ⟨g9, hq⟩ := hq
        refine V.get1 d_Fo_measureArray_42 rfl (List.mem_singleton.mpr g9) ?_
        refine V.lmul d_Fo_measureArray_45 ?_
        refine V.put1 d_Fo_measureArray_46 rfl (Or.inl rfl) (List.mem_singleton.mpr g1) ?_
        replace hq := hq _ rfl
        refine V.aload_n d_Fo_measureArray_49 rfl ?_
        refine V.aload_n d_Fo_measureArray_50 rfl ?_
        refine V.get1 d_Fo_measureArray_51 rfl (List.mem_singleton.mpr g4) ?_
        refine V.lconst (x := 0) d_Fo_measureArray_54 (by decide) ?_
        refine V.maxL d_Fo_measureArray_55 rfl (leb rfl) ?_
        refine V.aload_n d_Fo_measureArray_58 rfl ?_
        refine V.get0 d_Fo_measureArray_59 rfl (List.mem_singleton.mpr g1) ?_
        refine V.bipush (x := 47) d_Fo_measureArray_62 (by decide) ?_
        refine V.ic_ne (t := 71) d_Fo_measureArray_64 ⟨rfl, rfl⟩ (fun hc => ?_) (fun hc => ?_)
        · replace hq := ifp hc hq
          refine V.lconst (x := 1) d_Fo_measureArray_67 (by decide) ?_
          refine V.goto (t := 75) d_Fo_measureArray_68 ⟨rfl, rfl⟩ ?_
          refine V.lmul d_Fo_measureArray_75 ?_
          refine V.put1 d_Fo_measureArray_76 rfl (Or.inl rfl) (List.mem_singleton.mpr g1) ?_
          replace hq := hq _ rfl
          refine V.vret d_Fo_measureArray_79 rfl ?_
          exact V.rV hq
        · replace hq := ifn hc hq
          refine V.aload_n d_Fo_measureArray_71 rfl ?_
          refine V.get1 d_Fo_measureArray_72 rfl (List.mem_singleton.mpr g9) ?_
          refine V.lmul d_Fo_measureArray_75 ?_
          refine V.put1 d_Fo_measureArray_76 rfl (Or.inl rfl) (List.mem_singleton.mpr g1) ?_
          replace hq := hq _ rfl
          refine V.vret d_Fo_measureArray_79 rfl ?_
          exact V.rV hq
theorem w_Fo_measureChoice {d : Nat} {K : Hp → Prop} {x0 : Nat} {h0 : Hp} (hq :
  ((hS h0 x0).1 = 2 ∧ (∀ h2 : Hp, h2 = sL h0 x0 13 (1000 : Int64) → (∀ v3 : Nat, v3 = (hR h2 x0 9) → Wp d m_Fo_measureChoice 12 [some (.ref x0), some (.ref v3)] [] h2 (QV K))))) : Ca d m_Fo_measureChoice [.ref x0] h0 (QV K) := by
  show Wp _ _ 0 [some (.ref x0), none] [] h0 _
  refine V.aload_n d_Fo_measureChoice_0 rfl ?_
  refine V.ldc2_w d_Fo_measureChoice_1 rfl ?_
  obtain ⟨g1, hq⟩ := hq
  refine V.put1 d_Fo_measureChoice_4 rfl (Or.inl rfl) (List.mem_singleton.mpr g1) ?_
  replace hq := hq _ rfl
  refine V.aload_n d_Fo_measureChoice_7 rfl ?_
  refine V.get2 d_Fo_measureChoice_8 rfl (List.mem_singleton.mpr g1) ?_
  replace hq := hq _ rfl
  refine V.astore_n (l' := [_, _]) d_Fo_measureChoice_11 rfl (ltb rfl) ?_
  exact hq
theorem w_Fo_measureChoice_12 {d : Nat} {K : Hp → Prop} {x0 : Nat} {x1 : Nat} {h0 : Hp} (hq :
  (if x1 = 0 then K h0 else ((hS h0 x0).1 = 2 ∧ ((hS h0 x1).1 = 2 ∧ (∀ h6 : Hp, h6 = sL h0 x0 13 (if (hL h0 x1 13) < (hL h0 x0 13) then (hL h0 x1 13) else (hL h0 x0 13)) → (∀ h7 : Hp, h7 = sL h6 x0 14 (if (hL h6 x1 14) < (hL h6 x0 14) then (hL h6 x0 14) else (hL h6 x1 14)) → (∀ v8 : Nat, v8 = (hR h7 x1 8) → Wp d m_Fo_measureChoice 12 [some (.ref x0), some (.ref v8)] [] h7 (QV K)))))))) : Wp d m_Fo_measureChoice 12 [some (.ref x0), some (.ref x1)] [] h0 (QV K) := by
  refine V.aload_n d_Fo_measureChoice_12 rfl ?_
  refine V.ifnull (t := 54) d_Fo_measureChoice_13 ⟨rfl, rfl⟩ (fun hc => ?_) (fun hc => ?_)
  · replace hq := ifp hc hq
    refine V.vret d_Fo_measureChoice_54 rfl ?_
    exact V.rV hq
  · replace hq := ifn hc hq
    refine V.aload_n d_Fo_measureChoice_16 rfl ?_
    refine V.aload_n d_Fo_measureChoice_17 rfl ?_
    obtain ⟨g4, hq⟩ := hq
    refine V.get1 d_Fo_measureChoice_18 rfl (List.mem_singleton.mpr g4) ?_
    refine V.aload_n d_Fo_measureChoice_21 rfl ?_
    obtain ⟨g5, hq⟩ := hq
    refine V.get1 d_Fo_measureChoice_22 rfl (List.mem_singleton.mpr g5) ?_
    refine V.minL d_Fo_measureChoice_25 rfl (leb rfl) ?_
    refine V.put1 d_Fo_measureChoice_28 rfl (Or.inl rfl) (List.mem_singleton.mpr g4) ?_
    replace hq := hq _ rfl
    refine V.aload_n d_Fo_measureChoice_31 rfl ?_
    refine V.aload_n d_Fo_measureChoice_32 rfl ?_
    refine V.get1 d_Fo_measureChoice_33 rfl (List.mem_singleton.mpr g4) ?_
    refine V.aload_n d_Fo_measureChoice_36 rfl ?_
    refine V.get1 d_Fo_measureChoice_37 rfl (List.mem_singleton.mpr g5) ?_
    refine V.maxL d_Fo_measureChoice_40 rfl (leb rfl) ?_
    refine V.put1 d_Fo_measureChoice_43 rfl (Or.inl rfl) (List.mem_singleton.mpr g4) ?_
    replace hq := hq _ rfl
    refine V.aload_n d_Fo_measureChoice_46 rfl ?_
    refine V.get2 d_Fo_measureChoice_47 rfl (List.mem_singleton.mpr g5) ?_
    replace hq := hq _ rfl
    refine V.astore_n (l' := [_, _]) d_Fo_measureChoice_50 rfl (ltb rfl) ?_
    refine V.goto (t := 12) d_Fo_measureChoice_51 ⟨rfl, rfl⟩ ?_
    exact hq
theorem w_Fo_repeatsFittingly {d : Nat} {K : Int32 → Hp → Prop} {x0 : Nat} {h0 : Hp} (hq :
  ((hS h0 x0).1 = 2 ∧ (∀ v2 : Nat, v2 = (hR h0 x0 9) → (if (hI h0 x0 0) = (42 : Int32) then (if v2 = 0 then K (0 : Int32) h0 else ((hS h0 v2).1 = 2 ∧ (if (0 : Int64) < (hL h0 v2 14) then K (1 : Int32) h0 else K (0 : Int32) h0))) else (if (hI h0 x0 0) = (47 : Int32) then (if v2 = 0 then K (0 : Int32) h0 else ((hS h0 v2).1 = 2 ∧ (if (0 : Int64) < (hL h0 v2 13) then K (1 : Int32) h0 else K (0 : Int32) h0))) else K (1 : Int32) h0))))) : Ca d m_Fo_repeatsFittingly [.ref x0] h0 (QI K) := by
  show Wp _ _ 0 [some (.ref x0), none] [] h0 _
  refine V.aload_n d_Fo_repeatsFittingly_0 rfl ?_
  obtain ⟨g1, hq⟩ := hq
  refine V.get2 d_Fo_repeatsFittingly_1 rfl (List.mem_singleton.mpr g1) ?_
  replace hq := hq _ rfl
  refine V.astore_n (l' := [_, _]) d_Fo_repeatsFittingly_4 rfl (ltb rfl) ?_
  refine V.aload_n d_Fo_repeatsFittingly_5 rfl ?_
  refine V.get0 d_Fo_repeatsFittingly_6 rfl (List.mem_singleton.mpr g1) ?_
  refine V.bipush (x := 42) d_Fo_repeatsFittingly_9 (by decide) ?_
  refine V.ic_ne (t := 33) d_Fo_repeatsFittingly_11 ⟨rfl, rfl⟩ (fun hc => ?_) (fun hc => ?_)
  · replace hq := ifp hc hq
    refine V.aload_n d_Fo_repeatsFittingly_14 rfl ?_
    refine V.ifnull (t := 31) d_Fo_repeatsFittingly_15 ⟨rfl, rfl⟩ (fun hc => ?_) (fun hc => ?_)
    · replace hq := ifp hc hq
      refine V.iconst (x := 0) d_Fo_repeatsFittingly_31 (by decide) ?_
      refine V.zret (y := (0 : Int32)) d_Fo_repeatsFittingly_32 rfl (by decide) ?_
      exact V.rI hq
    · replace hq := ifn hc hq
      refine V.aload_n d_Fo_repeatsFittingly_18 rfl ?_
      obtain ⟨g3, hq⟩ := hq
      refine V.get1 d_Fo_repeatsFittingly_19 rfl (List.mem_singleton.mpr g3) ?_
      refine V.lconst (x := 0) d_Fo_repeatsFittingly_22 (by decide) ?_
      refine V.lc_le d_Fo_repeatsFittingly_23 d_Fo_repeatsFittingly_24 ⟨rfl, rfl⟩ (fun hc => ?_) (fun hc => ?_)
      · replace hq := ifp hc hq
        refine V.iconst (x := 1) d_Fo_repeatsFittingly_27 (by decide) ?_
        refine V.goto (t := 32) d_Fo_repeatsFittingly_28 ⟨rfl, rfl⟩ ?_
        refine V.zret (y := (1 : Int32)) d_Fo_repeatsFittingly_32 rfl (by decide) ?_
        exact V.rI hq
      · replace hq := ifn hc hq
        refine V.iconst (x := 0) d_Fo_repeatsFittingly_31 (by decide) ?_
        refine V.zret (y := (0 : Int32)) d_Fo_repeatsFittingly_32 rfl (by decide) ?_
        exact V.rI hq
  · replace hq := ifn hc hq
    refine V.aload_n d_Fo_repeatsFittingly_33 rfl ?_
    refine V.get0 d_Fo_repeatsFittingly_34 rfl (List.mem_singleton.mpr g1) ?_
    refine V.bipush (x := 47) d_Fo_repeatsFittingly_37 (by decide) ?_
    refine V.ic_ne (t := 61) d_Fo_repeatsFittingly_39 ⟨rfl, rfl⟩ (fun hc => ?_) (fun hc => ?_)
    · replace hq := ifp hc hq
      refine V.aload_n d_Fo_repeatsFittingly_42 rfl ?_
      refine V.ifnull (t := 59) d_Fo_repeatsFittingly_43 ⟨rfl, rfl⟩ (fun hc => ?_) (fun hc => ?_)
      · replace hq := ifp hc hq
        refine V.iconst (x := 0) d_Fo_repeatsFittingly_59 (by decide) ?_
        refine V.zret (y := (0 : Int32)) d_Fo_repeatsFittingly_60 rfl (by decide) ?_
        exact V.rI hq
      · replace hq := ifn hc hq
        refine V.aload_n d_Fo_repeatsFittingly_46 rfl ?_
        obtain ⟨g4, hq⟩ := hq
        refine V.get1 d_Fo_repeatsFittingly_47 rfl (List.mem_singleton.mpr g4) ?_
        refine V.lconst (x := 0) d_Fo_repeatsFittingly_50 (by decide) ?_
        refine V.lc_le d_Fo_repeatsFittingly_51 d_Fo_repeatsFittingly_52 ⟨rfl, rfl⟩ (fun hc => ?_) (fun hc => ?_)
        · replace hq := ifp hc hq
          refine V.iconst (x := 1) d_Fo_repeatsFittingly_55 (by decide) ?_
          refine V.goto (t := 60) d_Fo_repeatsFittingly_56 ⟨rfl, rfl⟩ ?_
          refine V.zret (y := (1 : Int32)) d_Fo_repeatsFittingly_60 rfl (by decide) ?_
          exact V.rI hq
        · replace hq := ifn hc hq
          refine V.iconst (x := 0) d_Fo_repeatsFittingly_59 (by decide) ?_
          refine V.zret (y := (0 : Int32)) d_Fo_repeatsFittingly_60 rfl (by decide) ?_
          exact V.rI hq
    · replace hq := ifn hc hq
      refine V.iconst (x := 1) d_Fo_repeatsFittingly_61 (by decide) ?_
      refine V.zret (y := (1 : Int32)) d_Fo_repeatsFittingly_62 rfl (by decide) ?_
      exact V.rI hq
