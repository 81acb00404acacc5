theorem w_Ff_init {d : Nat} {K : Hp → Prop} {x0 : Nat} {h0 : Hp} (hq :
  (2 ≤ x0 ∧ (room h0 2 = true ∧ (∀ a3 : Nat, a3 = hN h0 → (∀ h4 : Hp, h4 = hNew h0 0 0 2 → ((hS h4 a3).1 = 0 ∧ Ca d m_By_init [.ref a3, .int (90 : Int32)] h4 (QV (fun h7 => ((hS h7 x0).1 = 7 ∧ (∀ h10 : Hp, h10 = sR h7 x0 0 a3 → (room h10 2 = true ∧ (∀ a12 : Nat, a12 = hN h10 → (∀ h13 : Hp, h13 = hNew h10 0 0 2 → ((hS h13 a12).1 = 0 ∧ Ca d m_By_init [.ref a12, .int (120 : Int32)] h13 (QV (fun h16 => ((hS h16 x0).1 = 7 ∧ (∀ h19 : Hp, h19 = sR h16 x0 1 a12 → (room h19 2 = true ∧ (∀ a21 : Nat, a21 = hN h19 → (∀ h22 : Hp, h22 = hNew h19 1 0 2 → ((hS h22 a21).1 = 1 ∧ Ca d m_Lo_init [.ref a21, .int (160 : Int32)] h22 (QV (fun h25 => ((hS h25 x0).1 = 7 ∧ (∀ h28 : Hp, h28 = sR h25 x0 2 a21 → (room h28 2 = true ∧ (∀ a30 : Nat, a30 = hN h28 → (∀ h31 : Hp, h31 = hNew h28 0 0 2 → ((hS h31 a30).1 = 0 ∧ Ca d m_By_init [.ref a30, .int (120 : Int32)] h31 (QV (fun h34 => ((hS h34 x0).1 = 7 ∧ (∀ h37 : Hp, h37 = sR h34 x0 3 a30 → (room h37 2 = true ∧ (∀ a39 : Nat, a39 = hN h37 → (∀ h40 : Hp, h40 = hNew h37 1 0 2 → ((hS h40 a39).1 = 1 ∧ Ca d m_Lo_init [.ref a39, .int (160 : Int32)] h40 (QV (fun h43 => ((hS h43 x0).1 = 7 ∧ (∀ h46 : Hp, h46 = sR h43 x0 4 a39 → (room h46 2 = true ∧ (∀ a48 : Nat, a48 = hN h46 → (∀ h49 : Hp, h49 = hNew h46 3 0 2 → ((hS h49 a48).1 = 3 ∧ Ca d m_Fo_init [.ref a48] h49 (QV (fun h52 => ((hS h52 x0).1 = 7 ∧ (∀ h55 : Hp, h55 = sR h52 x0 5 a48 → (room h55 2 = true ∧ (∀ a57 : Nat, a57 = hN h55 → (∀ h58 : Hp, h58 = hNew h55 3 0 2 → ((hS h58 a57).1 = 3 ∧ Ca d m_Fo_init [.ref a57] h58 (QV (fun h61 => ((hS h61 x0).1 = 7 ∧ (∀ h64 : Hp, h64 = sR h61 x0 6 a57 → (∀ h65 : Hp, h65 = sI h64 x0 7 (0 : Int32) → (∀ h66 : Hp, h66 = sI h65 x0 8 (-1 : Int32) → (∀ h67 : Hp, h67 = sI h66 x0 9 (-1 : Int32) → K h67))))))))))))))))))))))))))))))))))))))))))))))))))))))))))))) : Ca (d + 1) m_Ff_init [.ref x0] h0 (QV K) := by
  show Wp _ _ 0 [some (.ref x0)] [] h0 _
  refine V.aload_n d_Ff_init_0 rfl ?_
  obtain ⟨g1, hq⟩ := hq
  refine V.objInit d_Ff_init_1 rfl g1 (leb rfl) ?_
  refine V.aload_n d_Ff_init_4 rfl ?_
  obtain ⟨g2, hq⟩ := hq
  refine V.new d_Ff_init_5 rfl (by decide) g2 ?_
  replace hq := hq _ rfl
  replace hq := hq _ rfl
  refine V.dupR d_Ff_init_8 ?_
  refine V.bipush (x := 90) d_Ff_init_9 (by decide) ?_
  obtain ⟨g6, hq⟩ := hq
  refine V.callV d_Ff_init_11 (cI_call (t := [_]) (rs := [_, _]) rfl rfl (lk1 g6) ⟨leb rfl, leb rfl⟩) hq (fun h7 hq => ?_)
  obtain ⟨g9, hq⟩ := hq
  refine V.put2 d_Ff_init_14 rfl (Or.inr rfl) (List.mem_singleton.mpr g9) ?_
  replace hq := hq _ rfl
  refine V.aload_n d_Ff_init_17 rfl ?_
  obtain ⟨g11, hq⟩ := hq
  refine V.new d_Ff_init_18 rfl (by decide) g11 ?_
  replace hq := hq _ rfl
  replace hq := hq _ rfl
  refine V.dupR d_Ff_init_21 ?_
  refine V.bipush (x := 120) d_Ff_init_22 (by decide) ?_
  obtain ⟨g15, hq⟩ := hq
  refine V.callV d_Ff_init_24 (cI_call (t := [_]) (rs := [_, _]) rfl rfl (lk1 g15) ⟨leb rfl, leb rfl⟩) hq (fun h16 hq => ?_)
  obtain ⟨g18, hq⟩ := hq
  refine V.put2 d_Ff_init_27 rfl (Or.inr rfl) (List.mem_singleton.mpr g18) ?_
  replace hq := hq _ rfl
  refine V.aload_n d_Ff_init_30 rfl ?_
  obtain ⟨g20, hq⟩ := hq
  refine V.new d_Ff_init_31 rfl (by decide) g20 ?_
  replace hq := hq _ rfl
  replace hq := hq _ rfl
  refine V.dupR d_Ff_init_34 ?_
  refine V.sipush (x := 160) d_Ff_init_35 (by decide) ?_
  obtain ⟨g24, hq⟩ := hq
  refine V.callV d_Ff_init_38 (cI_call (t := [_]) (rs := [_, _]) rfl rfl (lk1 g24) ⟨leb rfl, leb rfl⟩) hq (fun h25 hq => ?_)
  obtain ⟨g27, hq⟩ := hq
  refine V.put2 d_Ff_init_41 rfl (Or.inr rfl) (List.mem_singleton.mpr g27) ?_
  replace hq := hq _ rfl
  refine V.aload_n d_Ff_init_44 rfl ?_
  obtain ⟨g29, hq⟩ := hq
  refine V.new d_Ff_init_45 rfl (by decide) g29 ?_
  replace hq := hq _ rfl
  replace hq := hq _ rfl
  refine V.dupR d_Ff_init_48 ?_
  refine V.bipush (x := 120) d_Ff_init_49 (by decide) ?_
  obtain ⟨g33, hq⟩ := hq
  refine V.callV d_Ff_init_51 (cI_call (t := [_]) (rs := [_, _]) rfl rfl (lk1 g33) ⟨leb rfl, leb rfl⟩) hq (fun h34 hq => ?_)
  obtain ⟨g36, hq⟩ := hq
  refine V.put2 d_Ff_init_54 rfl (Or.inr rfl) (List.mem_singleton.mpr g36) ?_
  replace hq := hq _ rfl
  refine V.aload_n d_Ff_init_57 rfl ?_
  obtain ⟨g38, hq⟩ := hq
  refine V.new d_Ff_init_58 rfl (by decide) g38 ?_
  replace hq := hq _ rfl
  replace hq := hq _ rfl
  refine V.dupR d_Ff_init_61 ?_
  refine V.sipush (x := 160) d_Ff_init_62 (by decide) ?_
  obtain ⟨g42, hq⟩ := hq
  refine V.callV d_Ff_init_65 (cI_call (t := [_]) (rs := [_, _]) rfl rfl (lk1 g42) ⟨leb rfl, leb rfl⟩) hq (fun h43 hq => ?_)
  obtain ⟨g45, hq⟩ := hq
  refine V.put2 d_Ff_init_68 rfl (Or.inr rfl) (List.mem_singleton.mpr g45) ?_
  replace hq := hq _ rfl
  refine V.aload_n d_Ff_init_71 rfl ?_
  obtain ⟨g47, hq⟩ := hq
  refine V.new d_Ff_init_72 rfl (by decide) g47 ?_
  replace hq := hq _ rfl
  replace hq := hq _ rfl
  refine V.dupR d_Ff_init_75 ?_
  obtain ⟨g51, hq⟩ := hq
  refine V.callV d_Ff_init_76 (cI_call (t := []) (rs := [_, _]) rfl rfl (lk1 g51) ⟨leb rfl, leb rfl⟩) hq (fun h52 hq => ?_)
  obtain ⟨g54, hq⟩ := hq
  refine V.put2 d_Ff_init_79 rfl (Or.inl rfl) (List.mem_singleton.mpr g54) ?_
  replace hq := hq _ rfl
  refine V.aload_n d_Ff_init_82 rfl ?_
  obtain ⟨g56, hq⟩ := hq
  refine V.new d_Ff_init_83 rfl (by decide) g56 ?_
  replace hq := hq _ rfl
  replace hq := hq _ rfl
  refine V.dupR d_Ff_init_86 ?_
  obtain ⟨g60, hq⟩ := hq
  refine V.callV d_Ff_init_87 (cI_call (t := []) (rs := [_, _]) rfl rfl (lk1 g60) ⟨leb rfl, leb rfl⟩) hq (fun h61 hq => ?_)
  obtain ⟨g63, hq⟩ := hq
  refine V.put2 d_Ff_init_90 rfl (Or.inl rfl) (List.mem_singleton.mpr g63) ?_
  replace hq := hq _ rfl
  refine V.aload_n d_Ff_init_93 rfl ?_
  refine V.iconst (x := 0) d_Ff_init_94 (by decide) ?_
  refine V.put3 d_Ff_init_95 rfl (Or.inl rfl) (List.mem_singleton.mpr g63) (by decide) ?_
  replace hq := hq _ rfl
  refine V.aload_n d_Ff_init_98 rfl ?_
  refine V.iconst (x := -1) d_Ff_init_99 (by decide) ?_
  refine V.put0 d_Ff_init_100 rfl (Or.inl rfl) (List.mem_singleton.mpr g63) ?_
  replace hq := hq _ rfl
  refine V.aload_n d_Ff_init_103 rfl ?_
  refine V.iconst (x := -1) d_Ff_init_104 (by decide) ?_
  refine V.put0 d_Ff_init_105 rfl (Or.inl rfl) (List.mem_singleton.mpr g63) ?_
  replace hq := hq _ rfl
  refine V.vret d_Ff_init_108 rfl ?_
  exact V.rV hq
theorem w_Ff_type {d : Nat} {K : Int32 → Hp → Prop} {E : Nat → Hp → Prop} {x0 : Nat} {x1 : Int64} {h0 : Hp} (hq :
  Wp (d + 1) m_Ff_type 6 [some (.ref x0), some (.long x1), none, some (.int (0 : Int32)), some (.int (56 : Int32)), none] [] h0 (QIx K E)) : Ca (d + 1) m_Ff_type [.ref x0, .long x1] h0 (QIx K E) := by
  show Wp _ _ 0 [some (.ref x0), some (.long x1), none, none, none, none] [] h0 _
  refine V.iconst (x := 0) d_Ff_type_0 (by decide) ?_
  refine V.istore_n (l' := [_, _, _, _, _, _]) d_Ff_type_1 rfl (ltb rfl) ?_
  refine V.bipush (x := 56) d_Ff_type_2 (by decide) ?_
  refine V.istore (l' := [_, _, _, _, _, _]) d_Ff_type_4 rfl (ltb rfl) ?_
  exact hq
theorem w_Ff_type_6 {d : Nat} {K : Int32 → Hp → Prop} {E : Nat → Hp → Prop} {x0 : Nat} {x1 : Int64} {x3 : Int32} {x4 : Int32} {y5 : Option Value} {h0 : Hp} (hq :
  (if x4 < 0 then ((hS h0 x0).1 = 7 ∧ ((hS h0 (hR h0 x0 0)).1 = 0 ∧ Ca d m_By_hasRoomFor [.ref (hR h0 x0 0), .int x3] h0 (QI (fun v3 h4 => (if v3 = 0 then (room h4 6 = true ∧ E (hN h4) (hNew h4 10 0 6)) else Wp (d + 1) m_Ff_type 92 [some (.ref x0), some (.long x1), none, some (.int x3), some (.int (56 : Int32)), y5] [] h4 (QIx K E)))))) else Ca d m_Ff_byteOf [.long x1, .int x4] h0 (QI (fun v7 h8 => (if v7 = 0 then Wp (d + 1) m_Ff_type 48 [some (.ref x0), some (.long x1), none, some (.int x3), some (.int x4), some (.int v7)] [] h8 (QIx K E) else (if v7 < (33 : Int32) then (room h8 6 = true ∧ E (hN h8) (hNew h8 9 0 6)) else (if (126 : Int32) < v7 then (room h8 6 = true ∧ E (hN h8) (hNew h8 9 0 6)) else Wp (d + 1) m_Ff_type 48 [some (.ref x0), some (.long x1), none, some (.int x3), some (.int x4), some (.int v7)] [] h8 (QIx K E)))))))) : Wp (d + 1) m_Ff_type 6 [some (.ref x0), some (.long x1), none, some (.int x3), some (.int x4), y5] [] h0 (QIx K E) := by
  refine V.iload d_Ff_type_6 rfl ?_
  refine V.if_lt (t := 67) d_Ff_type_8 ⟨rfl, rfl⟩ (fun hc => ?_) (fun hc => ?_)
  · replace hq := ifp hc hq
    refine V.aload_n d_Ff_type_67 rfl ?_
    obtain ⟨g1, hq⟩ := hq
    refine V.get2 d_Ff_type_68 rfl (List.mem_singleton.mpr g1) ?_
    refine V.iload_n d_Ff_type_71 rfl ?_
    obtain ⟨g2, hq⟩ := hq
    refine V.callI d_Ff_type_72 (cV_call (t := [_]) (rs := []) rfl (Or.inl rfl) rfl (lk1 g2) ⟨leb rfl, leb rfl⟩) hq (fun v3 h4 hq => ?_)
    refine V.if_ne (t := 88) d_Ff_type_75 ⟨rfl, rfl⟩ (fun hc => ?_) (fun hc => ?_)
    · replace hq := ifp hc hq
      obtain ⟨g6, hq⟩ := hq
      refine V.thr d_Ff_type_78 rfl (by decide) (by decide +kernel) (leb rfl) g6 ?_
      exact V.eIx hq
    · replace hq := ifn hc hq
      refine V.bipush (x := 56) d_Ff_type_88 (by decide) ?_
      refine V.istore (l' := [_, _, _, _, _, _]) d_Ff_type_90 rfl (ltb rfl) ?_
      exact hq
  · replace hq := ifn hc hq
    refine V.lload_n d_Ff_type_11 rfl ?_
    refine V.iload d_Ff_type_12 rfl ?_
    refine V.callI d_Ff_type_14 (cS_call (as := [_, _]) (rs := []) rfl rfl ⟨leb rfl, leb rfl⟩) hq (fun v7 h8 hq => ?_)
    refine V.istore (l' := [_, _, _, _, _, _]) d_Ff_type_17 rfl (ltb rfl) ?_
    refine V.iload d_Ff_type_19 rfl ?_
    refine V.if_eq (t := 48) d_Ff_type_21 ⟨rfl, rfl⟩ (fun hc => ?_) (fun hc => ?_)
    · replace hq := ifp hc hq
      exact hq
    · replace hq := ifn hc hq
      refine V.iload d_Ff_type_24 rfl ?_
      refine V.bipush (x := 33) d_Ff_type_26 (by decide) ?_
      refine V.ic_lt (t := 38) d_Ff_type_28 ⟨rfl, rfl⟩ (fun hc => ?_) (fun hc => ?_)
      · replace hq := ifp hc hq
        obtain ⟨g10, hq⟩ := hq
        refine V.thr d_Ff_type_38 rfl (by decide) (by decide +kernel) (leb rfl) g10 ?_
        exact V.eIx hq
      · replace hq := ifn hc hq
        refine V.iload d_Ff_type_31 rfl ?_
        refine V.bipush (x := 126) d_Ff_type_33 (by decide) ?_
        refine V.ic_le (t := 48) d_Ff_type_35 ⟨rfl, rfl⟩ (fun hc => ?_) (fun hc => ?_)
        · replace hq := ifp hc hq
          obtain ⟨g11, hq⟩ := hq
          refine V.thr d_Ff_type_38 rfl (by decide) (by decide +kernel) (leb rfl) g11 ?_
          exact V.eIx hq
        · replace hq := ifn hc hq
          exact hq
theorem w_Ff_type_92 {d : Nat} {K : Int32 → Hp → Prop} {E : Nat → Hp → Prop} {x0 : Nat} {x1 : Int64} {y3 : Option Value} {x4 : Int32} {y5 : Option Value} {h0 : Hp} (hq :
  (if x4 < 0 then ((hS h0 x0).1 = 7 ∧ ((hS h0 (hR h0 x0 0)).1 = 0 ∧ K (hI h0 (hR h0 x0 0) 1) h0)) else Ca d m_Ff_byteOf [.long x1, .int x4] h0 (QI (fun v14 h15 => (if v14 = 0 then (∀ v17 : Int32, v17 = (x4 + (-8)) → Wp (d + 1) m_Ff_type 92 [some (.ref x0), some (.long x1), none, (yk y3), some (.int v17), some (.int v14)] [] h15 (QIx K E)) else ((hS h15 x0).1 = 7 ∧ ((hS h15 (hR h15 x0 0)).1 = 0 ∧ Ca d m_By_append [.ref (hR h15 x0 0), .int v14] h15 (QI (fun v20 h21 => (∀ v23 : Int32, v23 = (x4 + (-8)) → Wp (d + 1) m_Ff_type 92 [some (.ref x0), some (.long x1), none, (yk y3), some (.int v23), some (.int v14)] [] h21 (QIx K E))))))))))) : Wp (d + 1) m_Ff_type 92 [some (.ref x0), some (.long x1), none, y3, some (.int x4), y5] [] h0 (QIx K E) := by
  refine V.iload d_Ff_type_92 rfl ?_
  refine V.if_lt (t := 126) d_Ff_type_94 ⟨rfl, rfl⟩ (fun hc => ?_) (fun hc => ?_)
  · replace hq := ifp hc hq
    refine V.aload_n d_Ff_type_126 rfl ?_
    obtain ⟨g12, hq⟩ := hq
    refine V.get2 d_Ff_type_127 rfl (List.mem_singleton.mpr g12) ?_
    obtain ⟨g13, hq⟩ := hq
    refine V.get0 d_Ff_type_130 rfl (List.mem_singleton.mpr g13) ?_
    refine V.iret d_Ff_type_133 rfl ?_
    exact V.rIx hq
  · replace hq := ifn hc hq
    refine V.lload_n d_Ff_type_97 rfl ?_
    refine V.iload d_Ff_type_98 rfl ?_
    refine V.callI d_Ff_type_100 (cS_call (as := [_, _]) (rs := []) rfl rfl ⟨leb rfl, leb rfl⟩) hq (fun v14 h15 hq => ?_)
    refine V.istore (l' := [_, _, _, _, _, _]) d_Ff_type_103 rfl (ltb rfl) ?_
    refine V.iload d_Ff_type_105 rfl ?_
    refine V.if_eq (t := 120) d_Ff_type_107 ⟨rfl, rfl⟩ (fun hc => ?_) (fun hc => ?_)
    · replace hq := ifp hc hq
      replace hq := hq _ rfl
      refine V.iinc (l' := [_, _, _, _, _, _]) d_Ff_type_120 rfl (show _ + _ = _ + (-8 : Int32) from rfl) ((st1_alt (ltb rfl)).trans rfl) ?_
      refine V.goto (t := 92) d_Ff_type_123 ⟨rfl, rfl⟩ ?_
      exact hq
    · replace hq := ifn hc hq
      refine V.aload_n d_Ff_type_110 rfl ?_
      obtain ⟨g18, hq⟩ := hq
      refine V.get2 d_Ff_type_111 rfl (List.mem_singleton.mpr g18) ?_
      refine V.iload d_Ff_type_114 rfl ?_
      obtain ⟨g19, hq⟩ := hq
      refine V.callI d_Ff_type_116 (cV_call (t := [_]) (rs := []) rfl (Or.inl rfl) rfl (lk1 g19) ⟨leb rfl, leb rfl⟩) hq (fun v20 h21 hq => ?_)
      refine V.popI d_Ff_type_119 ?_
      replace hq := hq _ rfl
      refine V.iinc (l' := [_, _, _, _, _, _]) d_Ff_type_120 rfl (show _ + _ = _ + (-8 : Int32) from rfl) ((st1_alt (ltb rfl)).trans rfl) ?_
      refine V.goto (t := 92) d_Ff_type_123 ⟨rfl, rfl⟩ ?_
      exact hq
theorem w_Ff_type_48 {d : Nat} {K : Int32 → Hp → Prop} {E : Nat → Hp → Prop} {x0 : Nat} {x1 : Int64} {x3 : Int32} {x4 : Int32} {x5 : Int32} {h0 : Hp} (hq :
  (if x5 = 0 then (∀ v24 : Int32, v24 = (x3 + (0 : Int32)) → (∀ v25 : Int32, v25 = (x4 + (-8)) → Wp (d + 1) m_Ff_type 6 [some (.ref x0), some (.long x1), none, some (.int v24), some (.int v25), some (.int x5)] [] h0 (QIx K E))) else (∀ v26 : Int32, v26 = (x3 + (1 : Int32)) → (∀ v27 : Int32, v27 = (x4 + (-8)) → Wp (d + 1) m_Ff_type 6 [some (.ref x0), some (.long x1), none, some (.int v26), some (.int v27), some (.int x5)] [] h0 (QIx K E))))) : Wp (d + 1) m_Ff_type 48 [some (.ref x0), some (.long x1), none, some (.int x3), some (.int x4), some (.int x5)] [] h0 (QIx K E) := by
  refine V.iload_n d_Ff_type_48 rfl ?_
  refine V.iload d_Ff_type_49 rfl ?_
  refine V.if_eq (t := 58) d_Ff_type_51 ⟨rfl, rfl⟩ (fun hc => ?_) (fun hc => ?_)
  · replace hq := ifp hc hq
    refine V.iconst (x := 0) d_Ff_type_58 (by decide) ?_
    refine V.iadd d_Ff_type_59 ?_
    replace hq := hq _ rfl
    refine V.istore_n (l' := [_, _, _, _, _, _]) d_Ff_type_60 rfl (ltb rfl) ?_
    replace hq := hq _ rfl
    refine V.iinc (l' := [_, _, _, _, _, _]) d_Ff_type_61 rfl (show _ + _ = _ + (-8 : Int32) from rfl) rfl ?_
    refine V.goto (t := 6) d_Ff_type_64 ⟨rfl, rfl⟩ ?_
    exact hq
  · replace hq := ifn hc hq
    refine V.iconst (x := 1) d_Ff_type_54 (by decide) ?_
    refine V.goto (t := 59) d_Ff_type_55 ⟨rfl, rfl⟩ ?_
    refine V.iadd d_Ff_type_59 ?_
    replace hq := hq _ rfl
    refine V.istore_n (l' := [_, _, _, _, _, _]) d_Ff_type_60 rfl (ltb rfl) ?_
    replace hq := hq _ rfl
    refine V.iinc (l' := [_, _, _, _, _, _]) d_Ff_type_61 rfl (show _ + _ = _ + (-8 : Int32) from rfl) rfl ?_
    refine V.goto (t := 6) d_Ff_type_64 ⟨rfl, rfl⟩ ?_
    exact hq
theorem w_Ff_clear {d : Nat} {K : Int32 → Hp → Prop} {x0 : Nat} {h0 : Hp} (hq :
  ((hS h0 x0).1 = 7 ∧ ((hS h0 (hR h0 x0 0)).1 = 0 ∧ (∀ v3 : Int32, v3 = (hI h0 (hR h0 x0 0) 1) → Ca d m_By_forgetAll [.ref (hR h0 x0 0)] h0 (QV (fun h4 => K v3 h4)))))) : Ca (d + 1) m_Ff_clear [.ref x0] h0 (QI K) := by
  show Wp _ _ 0 [some (.ref x0), none] [] h0 _
  refine V.aload_n d_Ff_clear_0 rfl ?_
  obtain ⟨g1, hq⟩ := hq
  refine V.get2 d_Ff_clear_1 rfl (List.mem_singleton.mpr g1) ?_
  obtain ⟨g2, hq⟩ := hq
  refine V.get0 d_Ff_clear_4 rfl (List.mem_singleton.mpr g2) ?_
  replace hq := hq _ rfl
  refine V.istore_n (l' := [_, _]) d_Ff_clear_7 rfl (ltb rfl) ?_
  refine V.aload_n d_Ff_clear_8 rfl ?_
  refine V.get2 d_Ff_clear_9 rfl (List.mem_singleton.mpr g1) ?_
  refine V.callV d_Ff_clear_12 (cV_call (t := []) (rs := []) rfl (Or.inl rfl) rfl (lk1 g2) ⟨leb rfl, leb rfl⟩) hq (fun h4 hq => ?_)
  refine V.iload_n d_Ff_clear_15 rfl ?_
  refine V.iret d_Ff_clear_16 rfl ?_
  exact V.rI hq
theorem w_Ff_fault {d : Nat} {K : Int32 → Hp → Prop} {x0 : Nat} {h0 : Hp} (hq :
  (room h0 3 = true ∧ (∀ a2 : Nat, a2 = hN h0 → (∀ h3 : Hp, h3 = hNew h0 4 0 3 → ((hS h3 x0).1 = 7 ∧ ((hS h3 a2).1 = 4 ∧ Ca d m_Pa_init [.ref a2, .ref (hR h3 x0 0), .ref (hR h3 x0 5)] h3 (QV (fun h7 => ((hS h7 a2).1 = 4 ∧ Ca d m_Pa_parse [.ref a2] h7 (QI (fun v10 h11 => K v10 h11))))))))))) : Ca (d + 1) m_Ff_fault [.ref x0] h0 (QI K) := by
  show Wp _ _ 0 [some (.ref x0)] [] h0 _
  obtain ⟨g1, hq⟩ := hq
  refine V.new d_Ff_fault_0 rfl (by decide) g1 ?_
  replace hq := hq _ rfl
  replace hq := hq _ rfl
  refine V.dupR d_Ff_fault_3 ?_
  refine V.aload_n d_Ff_fault_4 rfl ?_
  obtain ⟨g5, hq⟩ := hq
  refine V.get2 d_Ff_fault_5 rfl (List.mem_singleton.mpr g5) ?_
  refine V.aload_n d_Ff_fault_8 rfl ?_
  refine V.get2 d_Ff_fault_9 rfl (List.mem_singleton.mpr g5) ?_
  obtain ⟨g6, hq⟩ := hq
  refine V.callV d_Ff_fault_12 (cI_call (t := [_, _]) (rs := [_]) rfl rfl (lk1 g6) ⟨leb rfl, leb rfl⟩) hq (fun h7 hq => ?_)
  obtain ⟨g9, hq⟩ := hq
  refine V.callI d_Ff_fault_15 (cV_call (t := []) (rs := []) rfl (Or.inl rfl) rfl (lk1 g9) ⟨leb rfl, leb rfl⟩) hq (fun v10 h11 hq => ?_)
  refine V.iret d_Ff_fault_18 rfl ?_
  exact V.rI hq
theorem w_Ff_compile {d : Nat} {K : Int32 → Hp → Prop} {E : Nat → Hp → Prop} {x0 : Nat} {h0 : Hp} (hq :
  ((hS h0 x0).1 = 7 ∧ (∀ h2 : Hp, h2 = sI h0 x0 7 (0 : Int32) → (room h2 3 = true ∧ (∀ a4 : Nat, a4 = hN h2 → (∀ h5 : Hp, h5 = hNew h2 4 0 3 → ((hS h5 x0).1 = 7 ∧ ((hS h5 a4).1 = 4 ∧ Ca d m_Pa_init [.ref a4, .ref (hR h5 x0 0), .ref (hR h5 x0 5)] h5 (QV (fun h9 => ((hS h9 a4).1 = 4 ∧ Ca d m_Pa_parse [.ref a4] h9 (QI (fun v12 h13 => (if v12 = (-2 : Int32) then ((hS h13 x0).1 = 7 ∧ ((hS h13 (hR h13 x0 5)).1 = 3 ∧ Ca d m_Fo_isSound [.ref (hR h13 x0 5)] h13 (QI (fun v17 h18 => (if v17 = 0 then (room h18 6 = true ∧ E (hN h18) (hNew h18 10 0 6)) else ((hS h18 x0).1 = 7 ∧ (∀ v22 : Nat, v22 = (hR h18 x0 6) → (∀ h23 : Hp, h23 = sR h18 x0 6 (hR h18 x0 5) → (∀ h24 : Hp, h24 = sR h23 x0 5 v22 → (∀ h25 : Hp, h25 = sI h24 x0 7 (1 : Int32) → ((hS h18 (hR h25 x0 6)).1 = 3 ∧ Ca d m_Fo_most [.ref (hR h25 x0 6)] h25 (QI (fun v27 h28 => K v27 h28))))))))))))) else (room h13 6 = true ∧ E (hN h13) (hNew h13 12 0 6)))))))))))))))) : Ca (d + 1) m_Ff_compile [.ref x0] h0 (QIx K E) := by
  show Wp _ _ 0 [some (.ref x0), none] [] h0 _
  refine V.aload_n d_Ff_compile_0 rfl ?_
  refine V.iconst (x := 0) d_Ff_compile_1 (by decide) ?_
  obtain ⟨g1, hq⟩ := hq
  refine V.put3 d_Ff_compile_2 rfl (Or.inl rfl) (List.mem_singleton.mpr g1) (by decide) ?_
  replace hq := hq _ rfl
  obtain ⟨g3, hq⟩ := hq
  refine V.new d_Ff_compile_5 rfl (by decide) g3 ?_
  replace hq := hq _ rfl
  replace hq := hq _ rfl
  refine V.dupR d_Ff_compile_8 ?_
  refine V.aload_n d_Ff_compile_9 rfl ?_
  obtain ⟨g7, hq⟩ := hq
  refine V.get2 d_Ff_compile_10 rfl (List.mem_singleton.mpr g7) ?_
  refine V.aload_n d_Ff_compile_13 rfl ?_
  refine V.get2 d_Ff_compile_14 rfl (List.mem_singleton.mpr g7) ?_
  obtain ⟨g8, hq⟩ := hq
  refine V.callV d_Ff_compile_17 (cI_call (t := [_, _]) (rs := [_]) rfl rfl (lk1 g8) ⟨leb rfl, leb rfl⟩) hq (fun h9 hq => ?_)
  obtain ⟨g11, hq⟩ := hq
  refine V.callI d_Ff_compile_20 (cV_call (t := []) (rs := []) rfl (Or.inl rfl) rfl (lk1 g11) ⟨leb rfl, leb rfl⟩) hq (fun v12 h13 hq => ?_)
  refine V.bipush (x := -2) d_Ff_compile_23 (by decide) ?_
  refine V.ic_eq (t := 38) d_Ff_compile_25 ⟨rfl, rfl⟩ (fun hc => ?_) (fun hc => ?_)
  · replace hq := ifp hc hq
    refine V.aload_n d_Ff_compile_38 rfl ?_
    obtain ⟨g15, hq⟩ := hq
    refine V.get2 d_Ff_compile_39 rfl (List.mem_singleton.mpr g15) ?_
    obtain ⟨g16, hq⟩ := hq
    refine V.callI d_Ff_compile_42 (cV_call (t := []) (rs := []) rfl (Or.inl rfl) rfl (lk1 g16) ⟨leb rfl, leb rfl⟩) hq (fun v17 h18 hq => ?_)
    refine V.if_ne (t := 58) d_Ff_compile_45 ⟨rfl, rfl⟩ (fun hc => ?_) (fun hc => ?_)
    · replace hq := ifp hc hq
      obtain ⟨g20, hq⟩ := hq
      refine V.thr d_Ff_compile_48 rfl (by decide) (by decide +kernel) (leb rfl) g20 ?_
      exact V.eIx hq
    · replace hq := ifn hc hq
      refine V.aload_n d_Ff_compile_58 rfl ?_
      obtain ⟨g21, hq⟩ := hq
      refine V.get2 d_Ff_compile_59 rfl (List.mem_singleton.mpr g21) ?_
      replace hq := hq _ rfl
      refine V.astore_n (l' := [_, _]) d_Ff_compile_62 rfl (ltb rfl) ?_
      refine V.aload_n d_Ff_compile_63 rfl ?_
      refine V.aload_n d_Ff_compile_64 rfl ?_
      refine V.get2 d_Ff_compile_65 rfl (List.mem_singleton.mpr g21) ?_
      refine V.put2 d_Ff_compile_68 rfl (Or.inl rfl) (List.mem_singleton.mpr g21) ?_
      replace hq := hq _ rfl
      refine V.aload_n d_Ff_compile_71 rfl ?_
      refine V.aload_n d_Ff_compile_72 rfl ?_
      refine V.put2 d_Ff_compile_73 rfl (Or.inl rfl) (List.mem_singleton.mpr g21) ?_
      replace hq := hq _ rfl
      refine V.aload_n d_Ff_compile_76 rfl ?_
      refine V.iconst (x := 1) d_Ff_compile_77 (by decide) ?_
      refine V.put3 d_Ff_compile_78 rfl (Or.inl rfl) (List.mem_singleton.mpr g21) (by decide) ?_
      replace hq := hq _ rfl
      refine V.aload_n d_Ff_compile_81 rfl ?_
      refine V.get2 d_Ff_compile_82 rfl (List.mem_singleton.mpr g21) ?_
      obtain ⟨g26, hq⟩ := hq
      refine V.callI d_Ff_compile_85 (cV_call (t := []) (rs := []) rfl (Or.inl rfl) rfl (lk1 g26) ⟨leb rfl, leb rfl⟩) hq (fun v27 h28 hq => ?_)
      refine V.iret d_Ff_compile_88 rfl ?_
      exact V.rIx hq
  · replace hq := ifn hc hq
    obtain ⟨g30, hq⟩ := hq
    refine V.thr d_Ff_compile_28 rfl (by decide) (by decide +kernel) (leb rfl) g30 ?_
    exact V.eIx hq
theorem w_Ff_size {d : Nat} {K : Int32 → Hp → Prop} {E : Nat → Hp → Prop} {x0 : Nat} {x1 : Int32} {h0 : Hp} (hq :
  ((hS h0 x0).1 = 7 ∧ (if (hI h0 x0 7) = 0 then (room h0 6 = true ∧ E (hN h0) (hNew h0 13 0 6)) else (if x1 = 0 then ((hS h0 (hR h0 x0 6)).1 = 3 ∧ Ca d m_Fo_least [.ref (hR h0 x0 6)] h0 (QI (fun v4 h5 => K v4 h5))) else ((hS h0 (hR h0 x0 6)).1 = 3 ∧ Ca d m_Fo_most [.ref (hR h0 x0 6)] h0 (QI (fun v8 h9 => K v8 h9))))))) : Ca (d + 1) m_Ff_size [.ref x0, .int x1] h0 (QIx K E) := by
  show Wp _ _ 0 [some (.ref x0), some (.int x1)] [] h0 _
  refine V.aload_n d_Ff_size_0 rfl ?_
  obtain ⟨g1, hq⟩ := hq
  refine V.get3 d_Ff_size_1 rfl (List.mem_singleton.mpr g1) ?_
  refine V.if_ne (t := 17) d_Ff_size_4 ⟨rfl, rfl⟩ (fun hc => ?_) (fun hc => ?_)
  · replace hq := ifp hc hq
    obtain ⟨g2, hq⟩ := hq
    refine V.thr d_Ff_size_7 rfl (by decide) (by decide +kernel) (leb rfl) g2 ?_
    exact V.eIx hq
  · replace hq := ifn hc hq
    refine V.iload_n d_Ff_size_17 rfl ?_
    refine V.if_eq (t := 31) d_Ff_size_18 ⟨rfl, rfl⟩ (fun hc => ?_) (fun hc => ?_)
    · replace hq := ifp hc hq
      refine V.aload_n d_Ff_size_31 rfl ?_
      refine V.get2 d_Ff_size_32 rfl (List.mem_singleton.mpr g1) ?_
      obtain ⟨g3, hq⟩ := hq
      refine V.callI d_Ff_size_35 (cV_call (t := []) (rs := []) rfl (Or.inl rfl) rfl (lk1 g3) ⟨leb rfl, leb rfl⟩) hq (fun v4 h5 hq => ?_)
      refine V.iret d_Ff_size_38 rfl ?_
      exact V.rIx hq
    · replace hq := ifn hc hq
      refine V.aload_n d_Ff_size_21 rfl ?_
      refine V.get2 d_Ff_size_22 rfl (List.mem_singleton.mpr g1) ?_
      obtain ⟨g7, hq⟩ := hq
      refine V.callI d_Ff_size_25 (cV_call (t := []) (rs := []) rfl (Or.inl rfl) rfl (lk1 g7) ⟨leb rfl, leb rfl⟩) hq (fun v8 h9 hq => ?_)
      refine V.goto (t := 38) d_Ff_size_28 ⟨rfl, rfl⟩ ?_
      refine V.iret d_Ff_size_38 rfl ?_
      exact V.rIx hq
theorem w_Ff_put {d : Nat} {K : Int32 → Hp → Prop} {E : Nat → Hp → Prop} {x0 : Nat} {x1 : Int64} {x3 : Int32} {h0 : Hp} (hq :
  (if x3 < (1 : Int32) then (room h0 6 = true ∧ E (hN h0) (hNew h0 9 0 6)) else (if (8 : Int32) < x3 then (room h0 6 = true ∧ E (hN h0) (hNew h0 9 0 6)) else ((hS h0 x0).1 = 7 ∧ ((hS h0 (hR h0 x0 1)).1 = 0 ∧ Ca d m_By_hasRoomFor [.ref (hR h0 x0 1), .int x3] h0 (QI (fun v5 h6 => (if v5 = 0 then (room h6 6 = true ∧ E (hN h6) (hNew h6 10 0 6)) else (∀ v9 : Int32, v9 = (((8 : Int32) * x3) - (8 : Int32)) → Wp (d + 1) m_Ff_put 51 [some (.ref x0), some (.long x1), none, some (.int x3), some (.int v9)] [] h6 (QIx K E)))))))))) : Ca (d + 1) m_Ff_put [.ref x0, .long x1, .int x3] h0 (QIx K E) := by
  show Wp _ _ 0 [some (.ref x0), some (.long x1), none, some (.int x3), none] [] h0 _
  refine V.iload_n d_Ff_put_0 rfl ?_
  refine V.iconst (x := 1) d_Ff_put_1 (by decide) ?_
  refine V.ic_lt (t := 11) d_Ff_put_2 ⟨rfl, rfl⟩ (fun hc => ?_) (fun hc => ?_)
  · replace hq := ifp hc hq
    obtain ⟨g1, hq⟩ := hq
    refine V.thr d_Ff_put_11 rfl (by decide) (by decide +kernel) (leb rfl) g1 ?_
    exact V.eIx hq
  · replace hq := ifn hc hq
    refine V.iload_n d_Ff_put_5 rfl ?_
    refine V.bipush (x := 8) d_Ff_put_6 (by decide) ?_
    refine V.ic_le (t := 21) d_Ff_put_8 ⟨rfl, rfl⟩ (fun hc => ?_) (fun hc => ?_)
    · replace hq := ifp hc hq
      obtain ⟨g2, hq⟩ := hq
      refine V.thr d_Ff_put_11 rfl (by decide) (by decide +kernel) (leb rfl) g2 ?_
      exact V.eIx hq
    · replace hq := ifn hc hq
      refine V.aload_n d_Ff_put_21 rfl ?_
      obtain ⟨g3, hq⟩ := hq
      refine V.get2 d_Ff_put_22 rfl (List.mem_singleton.mpr g3) ?_
      refine V.iload_n d_Ff_put_25 rfl ?_
      obtain ⟨g4, hq⟩ := hq
      refine V.callI d_Ff_put_26 (cV_call (t := [_]) (rs := []) rfl (Or.inl rfl) rfl (lk1 g4) ⟨leb rfl, leb rfl⟩) hq (fun v5 h6 hq => ?_)
      refine V.if_ne (t := 42) d_Ff_put_29 ⟨rfl, rfl⟩ (fun hc => ?_) (fun hc => ?_)
      · replace hq := ifp hc hq
        obtain ⟨g8, hq⟩ := hq
        refine V.thr d_Ff_put_32 rfl (by decide) (by decide +kernel) (leb rfl) g8 ?_
        exact V.eIx hq
      · replace hq := ifn hc hq
        refine V.bipush (x := 8) d_Ff_put_42 (by decide) ?_
        refine V.iload_n d_Ff_put_44 rfl ?_
        refine V.imul d_Ff_put_45 ?_
        refine V.bipush (x := 8) d_Ff_put_46 (by decide) ?_
        refine V.isub d_Ff_put_48 ?_
        replace hq := hq _ rfl
        refine V.istore (l' := [_, _, _, _, _]) d_Ff_put_49 rfl (ltb rfl) ?_
        exact hq
theorem w_Ff_put_51 {d : Nat} {K : Int32 → Hp → Prop} {E : Nat → Hp → Prop} {x0 : Nat} {x1 : Int64} {y3 : Option Value} {x4 : Int32} {h0 : Hp} (hq :
  (if x4 < 0 then ((hS h0 x0).1 = 7 ∧ ((hS h0 (hR h0 x0 1)).1 = 0 ∧ K (hI h0 (hR h0 x0 1) 1) h0)) else ((hS h0 x0).1 = 7 ∧ Ca d m_Ff_byteOf [.long x1, .int x4] h0 (QI (fun v13 h14 => ((hS h14 (hR h0 x0 1)).1 = 0 ∧ Ca d m_By_append [.ref (hR h0 x0 1), .int v13] h14 (QI (fun v17 h18 => (∀ v20 : Int32, v20 = (x4 + (-8)) → Wp (d + 1) m_Ff_put 51 [some (.ref x0), some (.long x1), none, (yk y3), some (.int v20)] [] h18 (QIx K E)))))))))) : Wp (d + 1) m_Ff_put 51 [some (.ref x0), some (.long x1), none, y3, some (.int x4)] [] h0 (QIx K E) := by
  refine V.iload d_Ff_put_51 rfl ?_
  refine V.if_lt (t := 76) d_Ff_put_53 ⟨rfl, rfl⟩ (fun hc => ?_) (fun hc => ?_)
  · replace hq := ifp hc hq
    refine V.aload_n d_Ff_put_76 rfl ?_
    obtain ⟨g10, hq⟩ := hq
    refine V.get2 d_Ff_put_77 rfl (List.mem_singleton.mpr g10) ?_
    obtain ⟨g11, hq⟩ := hq
    refine V.get0 d_Ff_put_80 rfl (List.mem_singleton.mpr g11) ?_
    refine V.iret d_Ff_put_83 rfl ?_
    exact V.rIx hq
  · replace hq := ifn hc hq
    refine V.aload_n d_Ff_put_56 rfl ?_
    obtain ⟨g12, hq⟩ := hq
    refine V.get2 d_Ff_put_57 rfl (List.mem_singleton.mpr g12) ?_
    refine V.lload_n d_Ff_put_60 rfl ?_
    refine V.iload d_Ff_put_61 rfl ?_
    refine V.callI d_Ff_put_63 (cS_call (as := [_, _]) (rs := [_]) rfl rfl ⟨leb rfl, leb rfl⟩) hq (fun v13 h14 hq => ?_)
    obtain ⟨g16, hq⟩ := hq
    refine V.callI d_Ff_put_66 (cV_call (t := [_]) (rs := []) rfl (Or.inl rfl) rfl (lk1 g16) ⟨leb rfl, leb rfl⟩) hq (fun v17 h18 hq => ?_)
    refine V.popI d_Ff_put_69 ?_
    replace hq := hq _ rfl
    refine V.iinc (l' := [_, _, _, _, _]) d_Ff_put_70 rfl (show _ + _ = _ + (-8 : Int32) from rfl) ((st1_alt (ltb rfl)).trans rfl) ?_
    refine V.goto (t := 51) d_Ff_put_73 ⟨rfl, rfl⟩ ?_
    exact hq
theorem w_Ff_cut {d : Nat} {K : Int32 → Hp → Prop} {E : Nat → Hp → Prop} {x0 : Nat} {x1 : Int32} {h0 : Hp} (hq :
  (if x1 < 0 then (room h0 6 = true ∧ E (hN h0) (hNew h0 9 0 6)) else ((hS h0 x0).1 = 7 ∧ ((hS h0 (hR h0 x0 1)).1 = 0 ∧ (if (hI h0 (hR h0 x0 1) 1) < x1 then (room h0 6 = true ∧ E (hN h0) (hNew h0 9 0 6)) else Ca d m_By_shortenTo [.ref (hR h0 x0 1), .int x1] h0 (QV (fun h5 => K x1 h5))))))) : Ca (d + 1) m_Ff_cut [.ref x0, .int x1] h0 (QIx K E) := by
  show Wp _ _ 0 [some (.ref x0), some (.int x1)] [] h0 _
  refine V.iload_n d_Ff_cut_0 rfl ?_
  refine V.if_lt (t := 15) d_Ff_cut_1 ⟨rfl, rfl⟩ (fun hc => ?_) (fun hc => ?_)
  · replace hq := ifp hc hq
    obtain ⟨g1, hq⟩ := hq
    refine V.thr d_Ff_cut_15 rfl (by decide) (by decide +kernel) (leb rfl) g1 ?_
    exact V.eIx hq
  · replace hq := ifn hc hq
    refine V.iload_n d_Ff_cut_4 rfl ?_
    refine V.aload_n d_Ff_cut_5 rfl ?_
    obtain ⟨g2, hq⟩ := hq
    refine V.get2 d_Ff_cut_6 rfl (List.mem_singleton.mpr g2) ?_
    obtain ⟨g3, hq⟩ := hq
    refine V.get0 d_Ff_cut_9 rfl (List.mem_singleton.mpr g3) ?_
    refine V.ic_le (t := 25) d_Ff_cut_12 ⟨rfl, rfl⟩ (fun hc => ?_) (fun hc => ?_)
    · replace hq := ifp hc hq
      obtain ⟨g4, hq⟩ := hq
      refine V.thr d_Ff_cut_15 rfl (by decide) (by decide +kernel) (leb rfl) g4 ?_
      exact V.eIx hq
    · replace hq := ifn hc hq
      refine V.aload_n d_Ff_cut_25 rfl ?_
      refine V.get2 d_Ff_cut_26 rfl (List.mem_singleton.mpr g2) ?_
      refine V.iload_n d_Ff_cut_29 rfl ?_
      refine V.callV d_Ff_cut_30 (cV_call (t := [_]) (rs := []) rfl (Or.inl rfl) rfl (lk1 g3) ⟨leb rfl, leb rfl⟩) hq (fun h5 hq => ?_)
      refine V.iload_n d_Ff_cut_33 rfl ?_
      refine V.iret d_Ff_cut_34 rfl ?_
      exact V.rIx hq
theorem w_Ff_read {d : Nat} {K : Int32 → Hp → Prop} {E : Nat → Hp → Prop} {x0 : Nat} {h0 : Hp} (hq :
  ((hS h0 x0).1 = 7 ∧ Ca d m_Ff_demandCompiled [.ref x0] h0 (QVx (fun h2 => ((hS h2 x0).1 = 7 ∧ ((hS h2 (hR h2 x0 4)).1 = 1 ∧ Ca d m_Lo_forgetAll [.ref (hR h2 x0 4)] h2 (QV (fun h6 => (room h6 5 = true ∧ (∀ a9 : Nat, a9 = hN h6 → (∀ h10 : Hp, h10 = hNew h6 5 0 5 → ((hS h10 x0).1 = 7 ∧ ((hS h10 a9).1 = 5 ∧ Ca d m_Re_init [.ref a9, .ref (hR h10 x0 1), .ref (hR h10 x0 4)] h10 (QV (fun h14 => ((hS h14 x0).1 = 7 ∧ ((hS h14 a9).1 = 5 ∧ Ca d m_Co_pass [.ref a9, .ref (hR h14 x0 6)] h14 (QI (fun v18 h19 => ((hS h19 x0).1 = 7 ∧ Ca d m_Ff_demandFine [.ref x0, .ref a9, .int v18] h19 (QVx (fun h22 => ((hS h22 a9).1 = 5 ∧ Ca d m_Co_bytesPassed [.ref a9] h22 (QI (fun v25 h26 => ((hS h26 x0).1 = 7 ∧ ((hS h26 (hR h26 x0 1)).1 = 0 ∧ (if v25 < (hI h26 (hR h26 x0 1) 1) then ((hS h26 a9).1 = 5 ∧ Ca d m_Co_bytesPassed [.ref a9] h26 (QI (fun v31 h32 => ((hS h32 x0).1 = 7 ∧ (∀ h35 : Hp, h35 = sI h32 x0 8 v31 → (∀ h36 : Hp, h36 = sI h35 x0 9 (-1 : Int32) → (room h36 6 = true ∧ E (hN h36) (hNew h36 11 0 6)))))))) else ((hS h26 (hR h26 x0 2)).1 = 1 ∧ Ca d m_Lo_becomeLike [.ref (hR h26 x0 2), .ref (hR h26 x0 4)] h26 (QV (fun h39 => ((hS h39 x0).1 = 7 ∧ ((hS h39 (hR h39 x0 2)).1 = 1 ∧ K (hI h39 (hR h39 x0 2) 1) h39)))))))))))) (fun x43 h44 => E x43 h44))))))))))))))))))) (fun x45 h46 => E x45 h46)))) : Ca (d + 1) m_Ff_read [.ref x0] h0 (QIx K E) := by
  show Wp _ _ 0 [some (.ref x0), none] [] h0 _
  refine V.aload_n d_Ff_read_0 rfl ?_
  obtain ⟨g1, hq⟩ := hq
  refine V.callVx d_Ff_read_1 (cV_call (t := []) (rs := []) rfl (Or.inl rfl) rfl (lk1 g1) ⟨leb rfl, leb rfl⟩) hq (fun h2 hq => ?_) (fun xx h_ hq => ?_)
  · refine V.aload_n d_Ff_read_4 rfl ?_
    obtain ⟨g4, hq⟩ := hq
    refine V.get2 d_Ff_read_5 rfl (List.mem_singleton.mpr g4) ?_
    obtain ⟨g5, hq⟩ := hq
    refine V.callV d_Ff_read_8 (cV_call (t := []) (rs := []) rfl (Or.inl rfl) rfl (lk1 g5) ⟨leb rfl, leb rfl⟩) hq (fun h6 hq => ?_)
    obtain ⟨g8, hq⟩ := hq
    refine V.new d_Ff_read_11 rfl (by decide) g8 ?_
    replace hq := hq _ rfl
    replace hq := hq _ rfl
    refine V.dupR d_Ff_read_14 ?_
    refine V.aload_n d_Ff_read_15 rfl ?_
    obtain ⟨g12, hq⟩ := hq
    refine V.get2 d_Ff_read_16 rfl (List.mem_singleton.mpr g12) ?_
    refine V.aload_n d_Ff_read_19 rfl ?_
    refine V.get2 d_Ff_read_20 rfl (List.mem_singleton.mpr g12) ?_
    obtain ⟨g13, hq⟩ := hq
    refine V.callV d_Ff_read_23 (cI_call (t := [_, _]) (rs := [_]) rfl rfl (lk1 g13) ⟨leb rfl, leb rfl⟩) hq (fun h14 hq => ?_)
    refine V.astore_n (l' := [_, _]) d_Ff_read_26 rfl (ltb rfl) ?_
    refine V.aload_n d_Ff_read_27 rfl ?_
    refine V.aload_n d_Ff_read_28 rfl ?_
    refine V.aload_n d_Ff_read_29 rfl ?_
    refine V.aload_n d_Ff_read_30 rfl ?_
    obtain ⟨g16, hq⟩ := hq
    refine V.get2 d_Ff_read_31 rfl (List.mem_singleton.mpr g16) ?_
    obtain ⟨g17, hq⟩ := hq
    refine V.callI d_Ff_read_34 (cV_call (t := [_]) (rs := [_, _]) rfl (Or.inr rfl) rfl (lk1 g17) ⟨leb rfl, leb rfl⟩) hq (fun v18 h19 hq => ?_)
    obtain ⟨g21, hq⟩ := hq
    refine V.callVx d_Ff_read_37 (cV_call (t := [_, _]) (rs := []) rfl (Or.inl rfl) rfl (lk1 g21) ⟨leb rfl, leb rfl⟩) hq (fun h22 hq => ?_) (fun xx h_ hq => ?_)
    · refine V.aload_n d_Ff_read_40 rfl ?_
      obtain ⟨g24, hq⟩ := hq
      refine V.callI d_Ff_read_41 (cV_call (t := []) (rs := []) rfl (Or.inr rfl) rfl (lk1 g24) ⟨leb rfl, leb rfl⟩) hq (fun v25 h26 hq => ?_)
      refine V.aload_n d_Ff_read_44 rfl ?_
      obtain ⟨g28, hq⟩ := hq
      refine V.get2 d_Ff_read_45 rfl (List.mem_singleton.mpr g28) ?_
      obtain ⟨g29, hq⟩ := hq
      refine V.get0 d_Ff_read_48 rfl (List.mem_singleton.mpr g29) ?_
      refine V.ic_ge (t := 77) d_Ff_read_51 ⟨rfl, rfl⟩ (fun hc => ?_) (fun hc => ?_)
      · replace hq := ifp hc hq
        refine V.aload_n d_Ff_read_54 rfl ?_
        refine V.aload_n d_Ff_read_55 rfl ?_
        obtain ⟨g30, hq⟩ := hq
        refine V.callI d_Ff_read_56 (cV_call (t := []) (rs := [_]) rfl (Or.inr rfl) rfl (lk1 g30) ⟨leb rfl, leb rfl⟩) hq (fun v31 h32 hq => ?_)
        obtain ⟨g34, hq⟩ := hq
        refine V.put0 d_Ff_read_59 rfl (Or.inl rfl) (List.mem_singleton.mpr g34) ?_
        replace hq := hq _ rfl
        refine V.aload_n d_Ff_read_62 rfl ?_
        refine V.iconst (x := -1) d_Ff_read_63 (by decide) ?_
        refine V.put0 d_Ff_read_64 rfl (Or.inl rfl) (List.mem_singleton.mpr g34) ?_
        replace hq := hq _ rfl
        obtain ⟨g37, hq⟩ := hq
        refine V.thr d_Ff_read_67 rfl (by decide) (by decide +kernel) (leb rfl) g37 ?_
        exact V.eIx hq
      · replace hq := ifn hc hq
        refine V.aload_n d_Ff_read_77 rfl ?_
        refine V.get2 d_Ff_read_78 rfl (List.mem_singleton.mpr g28) ?_
        refine V.aload_n d_Ff_read_81 rfl ?_
        refine V.get2 d_Ff_read_82 rfl (List.mem_singleton.mpr g28) ?_
        obtain ⟨g38, hq⟩ := hq
        refine V.callV d_Ff_read_85 (cV_call (t := [_]) (rs := []) rfl (Or.inl rfl) rfl (lk1 g38) ⟨leb rfl, leb rfl⟩) hq (fun h39 hq => ?_)
        refine V.aload_n d_Ff_read_88 rfl ?_
        obtain ⟨g41, hq⟩ := hq
        refine V.get2 d_Ff_read_89 rfl (List.mem_singleton.mpr g41) ?_
        obtain ⟨g42, hq⟩ := hq
        refine V.get0 d_Ff_read_92 rfl (List.mem_singleton.mpr g42) ?_
        refine V.iret d_Ff_read_95 rfl ?_
        exact V.rIx hq
    · exact Or.inr ⟨rfl, rfl, V.eIx hq⟩
  · exact Or.inr ⟨rfl, rfl, V.eIx hq⟩
theorem w_Ff_write {d : Nat} {K : Int32 → Hp → Prop} {E : Nat → Hp → Prop} {x0 : Nat} {h0 : Hp} (hq :
  ((hS h0 x0).1 = 7 ∧ Ca d m_Ff_demandCompiled [.ref x0] h0 (QVx (fun h2 => ((hS h2 x0).1 = 7 ∧ ((hS h2 (hR h2 x0 3)).1 = 0 ∧ Ca d m_By_forgetAll [.ref (hR h2 x0 3)] h2 (QV (fun h6 => (room h6 7 = true ∧ (∀ a9 : Nat, a9 = hN h6 → (∀ h10 : Hp, h10 = hNew h6 6 0 7 → ((hS h10 x0).1 = 7 ∧ ((hS h10 a9).1 = 6 ∧ Ca d m_Wr_init [.ref a9, .ref (hR h10 x0 2), .ref (hR h10 x0 3)] h10 (QV (fun h14 => ((hS h14 x0).1 = 7 ∧ ((hS h14 a9).1 = 6 ∧ Ca d m_Co_pass [.ref a9, .ref (hR h14 x0 6)] h14 (QI (fun v18 h19 => ((hS h19 x0).1 = 7 ∧ Ca d m_Ff_demandFine [.ref x0, .ref a9, .int v18] h19 (QVx (fun h22 => ((hS h22 a9).1 = 6 ∧ ((hS h22 x0).1 = 7 ∧ ((hS h22 (hR h22 x0 2)).1 = 1 ∧ (if (hI h22 a9 5) < (hI h22 (hR h22 x0 2) 1) then (room h22 6 = true ∧ E (hN h22) (hNew h22 11 0 6)) else ((hS h22 (hR h22 x0 1)).1 = 0 ∧ Ca d m_By_becomeLike [.ref (hR h22 x0 1), .ref (hR h22 x0 3)] h22 (QV (fun h29 => ((hS h29 x0).1 = 7 ∧ ((hS h29 (hR h29 x0 1)).1 = 0 ∧ K (hI h29 (hR h29 x0 1) 1) h29)))))))))) (fun x33 h34 => E x33 h34))))))))))))))))))) (fun x35 h36 => E x35 h36)))) : Ca (d + 1) m_Ff_write [.ref x0] h0 (QIx K E) := by
  show Wp _ _ 0 [some (.ref x0), none] [] h0 _
  refine V.aload_n d_Ff_write_0 rfl ?_
  obtain ⟨g1, hq⟩ := hq
  refine V.callVx d_Ff_write_1 (cV_call (t := []) (rs := []) rfl (Or.inl rfl) rfl (lk1 g1) ⟨leb rfl, leb rfl⟩) hq (fun h2 hq => ?_) (fun xx h_ hq => ?_)
  · refine V.aload_n d_Ff_write_4 rfl ?_
    obtain ⟨g4, hq⟩ := hq
    refine V.get2 d_Ff_write_5 rfl (List.mem_singleton.mpr g4) ?_
    obtain ⟨g5, hq⟩ := hq
    refine V.callV d_Ff_write_8 (cV_call (t := []) (rs := []) rfl (Or.inl rfl) rfl (lk1 g5) ⟨leb rfl, leb rfl⟩) hq (fun h6 hq => ?_)
    obtain ⟨g8, hq⟩ := hq
    refine V.new d_Ff_write_11 rfl (by decide) g8 ?_
    replace hq := hq _ rfl
    replace hq := hq _ rfl
    refine V.dupR d_Ff_write_14 ?_
    refine V.aload_n d_Ff_write_15 rfl ?_
    obtain ⟨g12, hq⟩ := hq
    refine V.get2 d_Ff_write_16 rfl (List.mem_singleton.mpr g12) ?_
    refine V.aload_n d_Ff_write_19 rfl ?_
    refine V.get2 d_Ff_write_20 rfl (List.mem_singleton.mpr g12) ?_
    obtain ⟨g13, hq⟩ := hq
    refine V.callV d_Ff_write_23 (cI_call (t := [_, _]) (rs := [_]) rfl rfl (lk1 g13) ⟨leb rfl, leb rfl⟩) hq (fun h14 hq => ?_)
    refine V.astore_n (l' := [_, _]) d_Ff_write_26 rfl (ltb rfl) ?_
    refine V.aload_n d_Ff_write_27 rfl ?_
    refine V.aload_n d_Ff_write_28 rfl ?_
    refine V.aload_n d_Ff_write_29 rfl ?_
    refine V.aload_n d_Ff_write_30 rfl ?_
    obtain ⟨g16, hq⟩ := hq
    refine V.get2 d_Ff_write_31 rfl (List.mem_singleton.mpr g16) ?_
    obtain ⟨g17, hq⟩ := hq
    refine V.callI d_Ff_write_34 (cV_call (t := [_]) (rs := [_, _]) rfl (Or.inr rfl) rfl (lk1 g17) ⟨leb rfl, leb rfl⟩) hq (fun v18 h19 hq => ?_)
    obtain ⟨g21, hq⟩ := hq
    refine V.callVx d_Ff_write_37 (cV_call (t := [_, _]) (rs := []) rfl (Or.inl rfl) rfl (lk1 g21) ⟨leb rfl, leb rfl⟩) hq (fun h22 hq => ?_) (fun xx h_ hq => ?_)
    · refine V.aload_n d_Ff_write_40 rfl ?_
      obtain ⟨g24, hq⟩ := hq
      refine V.get0 d_Ff_write_41 rfl (List.mem_singleton.mpr g24) ?_
      refine V.aload_n d_Ff_write_44 rfl ?_
      obtain ⟨g25, hq⟩ := hq
      refine V.get2 d_Ff_write_45 rfl (List.mem_singleton.mpr g25) ?_
      obtain ⟨g26, hq⟩ := hq
      refine V.get0 d_Ff_write_48 rfl (List.mem_singleton.mpr g26) ?_
      refine V.ic_ge (t := 64) d_Ff_write_51 ⟨rfl, rfl⟩ (fun hc => ?_) (fun hc => ?_)
      · replace hq := ifp hc hq
        obtain ⟨g27, hq⟩ := hq
        refine V.thr d_Ff_write_54 rfl (by decide) (by decide +kernel) (leb rfl) g27 ?_
        exact V.eIx hq
      · replace hq := ifn hc hq
        refine V.aload_n d_Ff_write_64 rfl ?_
        refine V.get2 d_Ff_write_65 rfl (List.mem_singleton.mpr g25) ?_
        refine V.aload_n d_Ff_write_68 rfl ?_
        refine V.get2 d_Ff_write_69 rfl (List.mem_singleton.mpr g25) ?_
        obtain ⟨g28, hq⟩ := hq
        refine V.callV d_Ff_write_72 (cV_call (t := [_]) (rs := []) rfl (Or.inl rfl) rfl (lk1 g28) ⟨leb rfl, leb rfl⟩) hq (fun h29 hq => ?_)
        refine V.aload_n d_Ff_write_75 rfl ?_
        obtain ⟨g31, hq⟩ := hq
        refine V.get2 d_Ff_write_76 rfl (List.mem_singleton.mpr g31) ?_
        obtain ⟨g32, hq⟩ := hq
        refine V.get0 d_Ff_write_79 rfl (List.mem_singleton.mpr g32) ?_
        refine V.iret d_Ff_write_82 rfl ?_
        exact V.rIx hq
    · exact Or.inr ⟨rfl, rfl, V.eIx hq⟩
  · exact Or.inr ⟨rfl, rfl, V.eIx hq⟩
theorem w_Ff_value {d : Nat} {K : Int64 → Hp → Prop} {E : Nat → Hp → Prop} {x0 : Nat} {x1 : Int32} {h0 : Hp} (hq :
  ((hS h0 x0).1 = 7 ∧ Ca d m_Ff_demandValue [.ref x0, .int x1] h0 (QVx (fun h2 => ((hS h2 x0).1 = 7 ∧ ((hS h2 (hR h2 x0 2)).1 = 1 ∧ Ca d m_Lo_at [.ref (hR h2 x0 2), .int x1] h2 (QL (fun v6 h7 => K v6 h7))))) (fun x9 h10 => E x9 h10)))) : Ca (d + 1) m_Ff_value [.ref x0, .int x1] h0 (QLx K E) := by
  show Wp _ _ 0 [some (.ref x0), some (.int x1)] [] h0 _
  refine V.aload_n d_Ff_value_0 rfl ?_
  refine V.iload_n d_Ff_value_1 rfl ?_
  obtain ⟨g1, hq⟩ := hq
  refine V.callVx d_Ff_value_2 (cV_call (t := [_]) (rs := []) rfl (Or.inl rfl) rfl (lk1 g1) ⟨leb rfl, leb rfl⟩) hq (fun h2 hq => ?_) (fun xx h_ hq => ?_)
  · refine V.aload_n d_Ff_value_5 rfl ?_
    obtain ⟨g4, hq⟩ := hq
    refine V.get2 d_Ff_value_6 rfl (List.mem_singleton.mpr g4) ?_
    refine V.iload_n d_Ff_value_9 rfl ?_
    obtain ⟨g5, hq⟩ := hq
    refine V.callL d_Ff_value_10 (cV_call (t := [_]) (rs := []) rfl (Or.inl rfl) rfl (lk1 g5) ⟨leb rfl, leb rfl⟩) hq (fun v6 h7 hq => ?_)
    refine V.lret d_Ff_value_13 rfl ?_
    exact V.rLx hq
  · exact Or.inr ⟨rfl, rfl, V.eLx hq⟩
theorem w_Ff_real {d : Nat} {K : UInt64 → Hp → Prop} {E : Nat → Hp → Prop} {x0 : Nat} {x1 : Int32} {h0 : Hp} (hq :
  ((hS h0 x0).1 = 7 ∧ Ca d m_Ff_demandValue [.ref x0, .int x1] h0 (QVx (fun h2 => ((hS h2 x0).1 = 7 ∧ ((hS h2 (hR h2 x0 2)).1 = 1 ∧ Ca d m_Lo_at [.ref (hR h2 x0 2), .int x1] h2 (QL (fun v6 h7 => Ca d m_Ff_doubleOf [.long v6] h7 (QD (fun v9 h10 => K v9 h10))))))) (fun x12 h13 => E x12 h13)))) : Ca (d + 1) m_Ff_real [.ref x0, .int x1] h0 (QDx K E) := by
  show Wp _ _ 0 [some (.ref x0), some (.int x1)] [] h0 _
  refine V.aload_n d_Ff_real_0 rfl ?_
  refine V.iload_n d_Ff_real_1 rfl ?_
  obtain ⟨g1, hq⟩ := hq
  refine V.callVx d_Ff_real_2 (cV_call (t := [_]) (rs := []) rfl (Or.inl rfl) rfl (lk1 g1) ⟨leb rfl, leb rfl⟩) hq (fun h2 hq => ?_) (fun xx h_ hq => ?_)
  · refine V.aload_n d_Ff_real_5 rfl ?_
    obtain ⟨g4, hq⟩ := hq
    refine V.get2 d_Ff_real_6 rfl (List.mem_singleton.mpr g4) ?_
    refine V.iload_n d_Ff_real_9 rfl ?_
    obtain ⟨g5, hq⟩ := hq
    refine V.callL d_Ff_real_10 (cV_call (t := [_]) (rs := []) rfl (Or.inl rfl) rfl (lk1 g5) ⟨leb rfl, leb rfl⟩) hq (fun v6 h7 hq => ?_)
    refine V.callD d_Ff_real_13 (cS_call (as := [_]) (rs := []) rfl rfl ⟨leb rfl, leb rfl⟩) hq (fun v9 h10 hq => ?_)
    refine V.dret d_Ff_real_16 rfl ?_
    exact V.rDx hq
  · exact Or.inr ⟨rfl, rfl, V.eDx hq⟩
theorem w_Ff_set {d : Nat} {K : Int32 → Hp → Prop} {E : Nat → Hp → Prop} {x0 : Nat} {x1 : Int32} {x2 : Int64} {h0 : Hp} (hq :
  (if x1 < 0 then (room h0 6 = true ∧ E (hN h0) (hNew h0 9 0 6)) else ((hS h0 x0).1 = 7 ∧ ((hS h0 (hR h0 x0 2)).1 = 1 ∧ (if (hI h0 (hR h0 x0 2) 1) < x1 then (room h0 6 = true ∧ E (hN h0) (hNew h0 9 0 6)) else (if x1 < (hI h0 (hR h0 x0 2) 1) then Ca d m_Lo_replace [.ref (hR h0 x0 2), .int x1, .long x2] h0 (QV (fun h5 => ((hS h5 x0).1 = 7 ∧ ((hS h5 (hR h5 x0 2)).1 = 1 ∧ K (hI h5 (hR h5 x0 2) 1) h5)))) else Ca d m_Lo_append [.ref (hR h0 x0 2), .long x2] h0 (QI (fun v9 h10 => (if v9 = 0 then (room h10 6 = true ∧ E (hN h10) (hNew h10 10 0 6)) else ((hS h10 x0).1 = 7 ∧ ((hS h10 (hR h10 x0 2)).1 = 1 ∧ K (hI h10 (hR h10 x0 2) 1) h10))))))))))) : Ca (d + 1) m_Ff_set [.ref x0, .int x1, .long x2] h0 (QIx K E) := by
  show Wp _ _ 0 [some (.ref x0), some (.int x1), some (.long x2), none] [] h0 _
  refine V.iload_n d_Ff_set_0 rfl ?_
  refine V.if_lt (t := 15) d_Ff_set_1 ⟨rfl, rfl⟩ (fun hc => ?_) (fun hc => ?_)
  · replace hq := ifp hc hq
    obtain ⟨g1, hq⟩ := hq
    refine V.thr d_Ff_set_15 rfl (by decide) (by decide +kernel) (leb rfl) g1 ?_
    exact V.eIx hq
  · replace hq := ifn hc hq
    refine V.iload_n d_Ff_set_4 rfl ?_
    refine V.aload_n d_Ff_set_5 rfl ?_
    obtain ⟨g2, hq⟩ := hq
    refine V.get2 d_Ff_set_6 rfl (List.mem_singleton.mpr g2) ?_
    obtain ⟨g3, hq⟩ := hq
    refine V.get0 d_Ff_set_9 rfl (List.mem_singleton.mpr g3) ?_
    refine V.ic_le (t := 25) d_Ff_set_12 ⟨rfl, rfl⟩ (fun hc => ?_) (fun hc => ?_)
    · replace hq := ifp hc hq
      obtain ⟨g4, hq⟩ := hq
      refine V.thr d_Ff_set_15 rfl (by decide) (by decide +kernel) (leb rfl) g4 ?_
      exact V.eIx hq
    · replace hq := ifn hc hq
      refine V.iload_n d_Ff_set_25 rfl ?_
      refine V.aload_n d_Ff_set_26 rfl ?_
      refine V.get2 d_Ff_set_27 rfl (List.mem_singleton.mpr g2) ?_
      refine V.get0 d_Ff_set_30 rfl (List.mem_singleton.mpr g3) ?_
      refine V.ic_ge (t := 48) d_Ff_set_33 ⟨rfl, rfl⟩ (fun hc => ?_) (fun hc => ?_)
      · replace hq := ifp hc hq
        refine V.aload_n d_Ff_set_36 rfl ?_
        refine V.get2 d_Ff_set_37 rfl (List.mem_singleton.mpr g2) ?_
        refine V.iload_n d_Ff_set_40 rfl ?_
        refine V.lload_n d_Ff_set_41 rfl ?_
        refine V.callV d_Ff_set_42 (cV_call (t := [_, _]) (rs := []) rfl (Or.inl rfl) rfl (lk1 g3) ⟨leb rfl, leb rfl⟩) hq (fun h5 hq => ?_)
        refine V.goto (t := 69) d_Ff_set_45 ⟨rfl, rfl⟩ ?_
        refine V.aload_n d_Ff_set_69 rfl ?_
        obtain ⟨g7, hq⟩ := hq
        refine V.get2 d_Ff_set_70 rfl (List.mem_singleton.mpr g7) ?_
        obtain ⟨g8, hq⟩ := hq
        refine V.get0 d_Ff_set_73 rfl (List.mem_singleton.mpr g8) ?_
        refine V.iret d_Ff_set_76 rfl ?_
        exact V.rIx hq
      · replace hq := ifn hc hq
        refine V.aload_n d_Ff_set_48 rfl ?_
        refine V.get2 d_Ff_set_49 rfl (List.mem_singleton.mpr g2) ?_
        refine V.lload_n d_Ff_set_52 rfl ?_
        refine V.callI d_Ff_set_53 (cV_call (t := [_]) (rs := []) rfl (Or.inl rfl) rfl (lk1 g3) ⟨leb rfl, leb rfl⟩) hq (fun v9 h10 hq => ?_)
        refine V.if_ne (t := 69) d_Ff_set_56 ⟨rfl, rfl⟩ (fun hc => ?_) (fun hc => ?_)
        · replace hq := ifp hc hq
          obtain ⟨g12, hq⟩ := hq
          refine V.thr d_Ff_set_59 rfl (by decide) (by decide +kernel) (leb rfl) g12 ?_
          exact V.eIx hq
        · replace hq := ifn hc hq
          refine V.aload_n d_Ff_set_69 rfl ?_
          obtain ⟨g13, hq⟩ := hq
          refine V.get2 d_Ff_set_70 rfl (List.mem_singleton.mpr g13) ?_
          obtain ⟨g14, hq⟩ := hq
          refine V.get0 d_Ff_set_73 rfl (List.mem_singleton.mpr g14) ?_
          refine V.iret d_Ff_set_76 rfl ?_
          exact V.rIx hq
theorem w_Ff_drop {d : Nat} {K : Int32 → Hp → Prop} {E : Nat → Hp → Prop} {x0 : Nat} {x1 : Int32} {x2 : Int32} {h0 : Hp} (hq :
  (if x1 < 0 then (room h0 6 = true ∧ E (hN h0) (hNew h0 11 0 6)) else (if x2 < 0 then (room h0 6 = true ∧ E (hN h0) (hNew h0 11 0 6)) else ((hS h0 x0).1 = 7 ∧ ((hS h0 (hR h0 x0 2)).1 = 1 ∧ (if (hI h0 (hR h0 x0 2) 1) < x1 then (room h0 6 = true ∧ E (hN h0) (hNew h0 11 0 6)) else (if ((hI h0 (hR h0 x0 2) 1) - x1) < x2 then (room h0 6 = true ∧ E (hN h0) (hNew h0 11 0 6)) else Ca d m_Lo_takeOut [.ref (hR h0 x0 2), .int x1, .int x2] h0 (QV (fun h7 => ((hS h7 x0).1 = 7 ∧ ((hS h7 (hR h7 x0 2)).1 = 1 ∧ K (hI h7 (hR h7 x0 2) 1) h7))))))))))) : Ca (d + 1) m_Ff_drop [.ref x0, .int x1, .int x2] h0 (QIx K E) := by
  show Wp _ _ 0 [some (.ref x0), some (.int x1), some (.int x2)] [] h0 _
  refine V.iload_n d_Ff_drop_0 rfl ?_
  refine V.if_lt (t := 32) d_Ff_drop_1 ⟨rfl, rfl⟩ (fun hc => ?_) (fun hc => ?_)
  · replace hq := ifp hc hq
    obtain ⟨g1, hq⟩ := hq
    refine V.thr d_Ff_drop_32 rfl (by decide) (by decide +kernel) (leb rfl) g1 ?_
    exact V.eIx hq
  · replace hq := ifn hc hq
    refine V.iload_n d_Ff_drop_4 rfl ?_
    refine V.if_lt (t := 32) d_Ff_drop_5 ⟨rfl, rfl⟩ (fun hc => ?_) (fun hc => ?_)
    · replace hq := ifp hc hq
      obtain ⟨g2, hq⟩ := hq
      refine V.thr d_Ff_drop_32 rfl (by decide) (by decide +kernel) (leb rfl) g2 ?_
      exact V.eIx hq
    · replace hq := ifn hc hq
      refine V.iload_n d_Ff_drop_8 rfl ?_
      refine V.aload_n d_Ff_drop_9 rfl ?_
      obtain ⟨g3, hq⟩ := hq
      refine V.get2 d_Ff_drop_10 rfl (List.mem_singleton.mpr g3) ?_
      obtain ⟨g4, hq⟩ := hq
      refine V.get0 d_Ff_drop_13 rfl (List.mem_singleton.mpr g4) ?_
      refine V.ic_gt (t := 32) d_Ff_drop_16 ⟨rfl, rfl⟩ (fun hc => ?_) (fun hc => ?_)
      · replace hq := ifp hc hq
        obtain ⟨g5, hq⟩ := hq
        refine V.thr d_Ff_drop_32 rfl (by decide) (by decide +kernel) (leb rfl) g5 ?_
        exact V.eIx hq
      · replace hq := ifn hc hq
        refine V.iload_n d_Ff_drop_19 rfl ?_
        refine V.aload_n d_Ff_drop_20 rfl ?_
        refine V.get2 d_Ff_drop_21 rfl (List.mem_singleton.mpr g3) ?_
        refine V.get0 d_Ff_drop_24 rfl (List.mem_singleton.mpr g4) ?_
        refine V.iload_n d_Ff_drop_27 rfl ?_
        refine V.isub d_Ff_drop_28 ?_
        refine V.ic_le (t := 42) d_Ff_drop_29 ⟨rfl, rfl⟩ (fun hc => ?_) (fun hc => ?_)
        · replace hq := ifp hc hq
          obtain ⟨g6, hq⟩ := hq
          refine V.thr d_Ff_drop_32 rfl (by decide) (by decide +kernel) (leb rfl) g6 ?_
          exact V.eIx hq
        · replace hq := ifn hc hq
          refine V.aload_n d_Ff_drop_42 rfl ?_
          refine V.get2 d_Ff_drop_43 rfl (List.mem_singleton.mpr g3) ?_
          refine V.iload_n d_Ff_drop_46 rfl ?_
          refine V.iload_n d_Ff_drop_47 rfl ?_
          refine V.callV d_Ff_drop_48 (cV_call (t := [_, _]) (rs := []) rfl (Or.inl rfl) rfl (lk1 g4) ⟨leb rfl, leb rfl⟩) hq (fun h7 hq => ?_)
          refine V.aload_n d_Ff_drop_51 rfl ?_
          obtain ⟨g9, hq⟩ := hq
          refine V.get2 d_Ff_drop_52 rfl (List.mem_singleton.mpr g9) ?_
          obtain ⟨g10, hq⟩ := hq
          refine V.get0 d_Ff_drop_55 rfl (List.mem_singleton.mpr g10) ?_
          refine V.iret d_Ff_drop_58 rfl ?_
          exact V.rIx hq
theorem w_Ff_byteAt {d : Nat} {K : Int32 → Hp → Prop} {E : Nat → Hp → Prop} {x0 : Nat} {x1 : Int32} {h0 : Hp} (hq :
  (if x1 < 0 then (room h0 6 = true ∧ E (hN h0) (hNew h0 11 0 6)) else ((hS h0 x0).1 = 7 ∧ ((hS h0 (hR h0 x0 1)).1 = 0 ∧ (if x1 < (hI h0 (hR h0 x0 1) 1) then Ca d m_By_at [.ref (hR h0 x0 1), .int x1] h0 (QI (fun v4 h5 => K v4 h5)) else (room h0 6 = true ∧ E (hN h0) (hNew h0 11 0 6))))))) : Ca (d + 1) m_Ff_byteAt [.ref x0, .int x1] h0 (QIx K E) := by
  show Wp _ _ 0 [some (.ref x0), some (.int x1)] [] h0 _
  refine V.iload_n d_Ff_byteAt_0 rfl ?_
  refine V.if_lt (t := 15) d_Ff_byteAt_1 ⟨rfl, rfl⟩ (fun hc => ?_) (fun hc => ?_)
  · replace hq := ifp hc hq
    obtain ⟨g1, hq⟩ := hq
    refine V.thr d_Ff_byteAt_15 rfl (by decide) (by decide +kernel) (leb rfl) g1 ?_
    exact V.eIx hq
  · replace hq := ifn hc hq
    refine V.iload_n d_Ff_byteAt_4 rfl ?_
    refine V.aload_n d_Ff_byteAt_5 rfl ?_
    obtain ⟨g2, hq⟩ := hq
    refine V.get2 d_Ff_byteAt_6 rfl (List.mem_singleton.mpr g2) ?_
    obtain ⟨g3, hq⟩ := hq
    refine V.get0 d_Ff_byteAt_9 rfl (List.mem_singleton.mpr g3) ?_
    refine V.ic_lt (t := 25) d_Ff_byteAt_12 ⟨rfl, rfl⟩ (fun hc => ?_) (fun hc => ?_)
    · replace hq := ifp hc hq
      refine V.aload_n d_Ff_byteAt_25 rfl ?_
      refine V.get2 d_Ff_byteAt_26 rfl (List.mem_singleton.mpr g2) ?_
      refine V.iload_n d_Ff_byteAt_29 rfl ?_
      refine V.callI d_Ff_byteAt_30 (cV_call (t := [_]) (rs := []) rfl (Or.inl rfl) rfl (lk1 g3) ⟨leb rfl, leb rfl⟩) hq (fun v4 h5 hq => ?_)
      refine V.iret d_Ff_byteAt_33 rfl ?_
      exact V.rIx hq
    · replace hq := ifn hc hq
      obtain ⟨g7, hq⟩ := hq
      refine V.thr d_Ff_byteAt_15 rfl (by decide) (by decide +kernel) (leb rfl) g7 ?_
      exact V.eIx hq
theorem w_Ff_count {d : Nat} {K : Int32 → Hp → Prop} {E : Nat → Hp → Prop} {x0 : Nat} {x1 : Int32} {h0 : Hp} (hq :
  (if x1.toInt = 0 then ((hS h0 x0).1 = 7 ∧ ((hS h0 (hR h0 x0 0)).1 = 0 ∧ K (hI h0 (hR h0 x0 0) 1) h0)) else (if x1.toInt = 1 then ((hS h0 x0).1 = 7 ∧ ((hS h0 (hR h0 x0 1)).1 = 0 ∧ K (hI h0 (hR h0 x0 1) 1) h0)) else (if x1.toInt = 2 then ((hS h0 x0).1 = 7 ∧ ((hS h0 (hR h0 x0 2)).1 = 1 ∧ K (hI h0 (hR h0 x0 2) 1) h0)) else (if x1.toInt = 3 then ((hS h0 x0).1 = 7 ∧ K (hI h0 x0 8) h0) else (if x1.toInt = 4 then ((hS h0 x0).1 = 7 ∧ K (hI h0 x0 9) h0) else (if x1.toInt = 5 then ((hS h0 x0).1 = 7 ∧ (if (hI h0 x0 7) = 0 then K (0 : Int32) h0 else K (1 : Int32) h0)) else (room h0 6 = true ∧ E (hN h0) (hNew h0 9 0 6))))))))) : Ca d m_Ff_count [.ref x0, .int x1] h0 (QIx K E) := by
  show Wp _ _ 0 [some (.ref x0), some (.int x1)] [] h0 _
  refine V.iload_n d_Ff_count_0 rfl ?_
  refine V.table d_Ff_count_1 ⟨rfl, rfl, rfl⟩ ?_
  refine swW_c (fun hc => ?_) (fun hc => ?_)
  · replace hq := ifp hc hq
    refine V.tg (t := 40) rfl ?_
    refine V.aload_n d_Ff_count_40 rfl ?_
    obtain ⟨g1, hq⟩ := hq
    refine V.get2 d_Ff_count_41 rfl (List.mem_singleton.mpr g1) ?_
    obtain ⟨g2, hq⟩ := hq
    refine V.get0 d_Ff_count_44 rfl (List.mem_singleton.mpr g2) ?_
    refine V.iret d_Ff_count_47 rfl ?_
    exact V.rIx hq
  · replace hq := ifn hc hq
    refine swW_c (fun hc => ?_) (fun hc => ?_)
    · replace hq := ifp hc hq
      refine V.tg (t := 48) rfl ?_
      refine V.aload_n d_Ff_count_48 rfl ?_
      obtain ⟨g3, hq⟩ := hq
      refine V.get2 d_Ff_count_49 rfl (List.mem_singleton.mpr g3) ?_
      obtain ⟨g4, hq⟩ := hq
      refine V.get0 d_Ff_count_52 rfl (List.mem_singleton.mpr g4) ?_
      refine V.iret d_Ff_count_55 rfl ?_
      exact V.rIx hq
    · replace hq := ifn hc hq
      refine swW_c (fun hc => ?_) (fun hc => ?_)
      · replace hq := ifp hc hq
        refine V.tg (t := 56) rfl ?_
        refine V.aload_n d_Ff_count_56 rfl ?_
        obtain ⟨g5, hq⟩ := hq
        refine V.get2 d_Ff_count_57 rfl (List.mem_singleton.mpr g5) ?_
        obtain ⟨g6, hq⟩ := hq
        refine V.get0 d_Ff_count_60 rfl (List.mem_singleton.mpr g6) ?_
        refine V.iret d_Ff_count_63 rfl ?_
        exact V.rIx hq
      · replace hq := ifn hc hq
        refine swW_c (fun hc => ?_) (fun hc => ?_)
        · replace hq := ifp hc hq
          refine V.tg (t := 64) rfl ?_
          refine V.aload_n d_Ff_count_64 rfl ?_
          obtain ⟨g7, hq⟩ := hq
          refine V.get0 d_Ff_count_65 rfl (List.mem_singleton.mpr g7) ?_
          refine V.iret d_Ff_count_68 rfl ?_
          exact V.rIx hq
        · replace hq := ifn hc hq
          refine swW_c (fun hc => ?_) (fun hc => ?_)
          · replace hq := ifp hc hq
            refine V.tg (t := 69) rfl ?_
            refine V.aload_n d_Ff_count_69 rfl ?_
            obtain ⟨g8, hq⟩ := hq
            refine V.get0 d_Ff_count_70 rfl (List.mem_singleton.mpr g8) ?_
            refine V.iret d_Ff_count_73 rfl ?_
            exact V.rIx hq
          · replace hq := ifn hc hq
            refine swW_c (fun hc => ?_) (fun hc => ?_)
            · replace hq := ifp hc hq
              refine V.tg (t := 74) rfl ?_
              refine V.aload_n d_Ff_count_74 rfl ?_
              obtain ⟨g9, hq⟩ := hq
              refine V.get3 d_Ff_count_75 rfl (List.mem_singleton.mpr g9) ?_
              refine V.if_eq (t := 85) d_Ff_count_78 ⟨rfl, rfl⟩ (fun hc => ?_) (fun hc => ?_)
              · replace hq := ifp hc hq
                refine V.iconst (x := 0) d_Ff_count_85 (by decide) ?_
                refine V.iret d_Ff_count_86 rfl ?_
                exact V.rIx hq
              · replace hq := ifn hc hq
                refine V.iconst (x := 1) d_Ff_count_81 (by decide) ?_
                refine V.goto (t := 86) d_Ff_count_82 ⟨rfl, rfl⟩ ?_
                refine V.iret d_Ff_count_86 rfl ?_
                exact V.rIx hq
            · replace hq := ifn hc hq
              refine V.tg (t := 87) rfl ?_
              obtain ⟨g10, hq⟩ := hq
              refine V.thr d_Ff_count_87 rfl (by decide) (by decide +kernel) (leb rfl) g10 ?_
              exact V.eIx hq
theorem w_Ff_demandCompiled {d : Nat} {K : Hp → Prop} {E : Nat → Hp → Prop} {x0 : Nat} {h0 : Hp} (hq :
  ((hS h0 x0).1 = 7 ∧ (if (hI h0 x0 7) = 0 then (room h0 6 = true ∧ E (hN h0) (hNew h0 12 0 6)) else K h0))) : Ca d m_Ff_demandCompiled [.ref x0] h0 (QVx K E) := by
  show Wp _ _ 0 [some (.ref x0)] [] h0 _
  refine V.aload_n d_Ff_demandCompiled_0 rfl ?_
  obtain ⟨g1, hq⟩ := hq
  refine V.get3 d_Ff_demandCompiled_1 rfl (List.mem_singleton.mpr g1) ?_
  refine V.if_ne (t := 17) d_Ff_demandCompiled_4 ⟨rfl, rfl⟩ (fun hc => ?_) (fun hc => ?_)
  · replace hq := ifp hc hq
    obtain ⟨g2, hq⟩ := hq
    refine V.thr d_Ff_demandCompiled_7 rfl (by decide) (by decide +kernel) (leb rfl) g2 ?_
    exact V.eVx hq
  · replace hq := ifn hc hq
    refine V.vret d_Ff_demandCompiled_17 rfl ?_
    exact V.rVx hq
theorem w_Ff_demandFine {d : Nat} {K : Hp → Prop} {E : Nat → Hp → Prop} {x0 : Nat} {x1 : Nat} {x2 : Int32} {h0 : Hp} (hq :
  (if x2 = 0 then K h0 else (((hS h0 x1).1 = 5 ∨ (hS h0 x1).1 = 6) ∧ ((hS h0 x0).1 = 7 ∧ (∀ h3 : Hp, h3 = sI h0 x0 8 (hI h0 x1 1) → (∀ h4 : Hp, h4 = sI h3 x0 9 (hI h3 x1 2) → (if x2 = (1 : Int32) then (room h4 6 = true ∧ E (hN h4) (hNew h4 13 0 6)) else (room h4 6 = true ∧ E (hN h4) (hNew h4 10 0 6))))))))) : Ca d m_Ff_demandFine [.ref x0, .ref x1, .int x2] h0 (QVx K E) := by
  show Wp _ _ 0 [some (.ref x0), some (.ref x1), some (.int x2)] [] h0 _
  refine V.iload_n d_Ff_demandFine_0 rfl ?_
  refine V.if_ne (t := 5) d_Ff_demandFine_1 ⟨rfl, rfl⟩ (fun hc => ?_) (fun hc => ?_)
  · replace hq := ifp hc hq
    refine V.vret d_Ff_demandFine_4 rfl ?_
    exact V.rVx hq
  · replace hq := ifn hc hq
    refine V.aload_n d_Ff_demandFine_5 rfl ?_
    refine V.aload_n d_Ff_demandFine_6 rfl ?_
    obtain ⟨g1, hq⟩ := hq
    refine V.get0 d_Ff_demandFine_7 rfl (mem2 g1) ?_
    obtain ⟨g2, hq⟩ := hq
    refine V.put0 d_Ff_demandFine_10 rfl (Or.inl rfl) (List.mem_singleton.mpr g2) ?_
    replace hq := hq _ rfl
    refine V.aload_n d_Ff_demandFine_13 rfl ?_
    refine V.aload_n d_Ff_demandFine_14 rfl ?_
    refine V.get0 d_Ff_demandFine_15 rfl (mem2 g1) ?_
    refine V.put0 d_Ff_demandFine_18 rfl (Or.inl rfl) (List.mem_singleton.mpr g2) ?_
    replace hq := hq _ rfl
    refine V.iload_n d_Ff_demandFine_21 rfl ?_
    refine V.iconst (x := 1) d_Ff_demandFine_22 (by decide) ?_
    refine V.ic_ne (t := 36) d_Ff_demandFine_23 ⟨rfl, rfl⟩ (fun hc => ?_) (fun hc => ?_)
    · replace hq := ifp hc hq
      obtain ⟨g5, hq⟩ := hq
      refine V.thr d_Ff_demandFine_26 rfl (by decide) (by decide +kernel) (leb rfl) g5 ?_
      exact V.eVx hq
    · replace hq := ifn hc hq
      obtain ⟨g6, hq⟩ := hq
      refine V.thr d_Ff_demandFine_36 rfl (by decide) (by decide +kernel) (leb rfl) g6 ?_
      exact V.eVx hq
theorem w_Ff_demandValue {d : Nat} {K : Hp → Prop} {E : Nat → Hp → Prop} {x0 : Nat} {x1 : Int32} {h0 : Hp} (hq :
  (if x1 < 0 then (room h0 6 = true ∧ E (hN h0) (hNew h0 11 0 6)) else ((hS h0 x0).1 = 7 ∧ ((hS h0 (hR h0 x0 2)).1 = 1 ∧ (if x1 < (hI h0 (hR h0 x0 2) 1) then K h0 else (room h0 6 = true ∧ E (hN h0) (hNew h0 11 0 6))))))) : Ca d m_Ff_demandValue [.ref x0, .int x1] h0 (QVx K E) := by
  show Wp _ _ 0 [some (.ref x0), some (.int x1)] [] h0 _
  refine V.iload_n d_Ff_demandValue_0 rfl ?_
  refine V.if_lt (t := 15) d_Ff_demandValue_1 ⟨rfl, rfl⟩ (fun hc => ?_) (fun hc => ?_)
  · replace hq := ifp hc hq
    obtain ⟨g1, hq⟩ := hq
    refine V.thr d_Ff_demandValue_15 rfl (by decide) (by decide +kernel) (leb rfl) g1 ?_
    exact V.eVx hq
  · replace hq := ifn hc hq
    refine V.iload_n d_Ff_demandValue_4 rfl ?_
    refine V.aload_n d_Ff_demandValue_5 rfl ?_
    obtain ⟨g2, hq⟩ := hq
    refine V.get2 d_Ff_demandValue_6 rfl (List.mem_singleton.mpr g2) ?_
    obtain ⟨g3, hq⟩ := hq
    refine V.get0 d_Ff_demandValue_9 rfl (List.mem_singleton.mpr g3) ?_
    refine V.ic_lt (t := 25) d_Ff_demandValue_12 ⟨rfl, rfl⟩ (fun hc => ?_) (fun hc => ?_)
    · replace hq := ifp hc hq
      refine V.vret d_Ff_demandValue_25 rfl ?_
      exact V.rVx hq
    · replace hq := ifn hc hq
      obtain ⟨g4, hq⟩ := hq
      refine V.thr d_Ff_demandValue_15 rfl (by decide) (by decide +kernel) (leb rfl) g4 ?_
      exact V.eVx hq
theorem w_Ff_byteOf {d : Nat} {K : Int32 → Hp → Prop} {x0 : Int64} {x2 : Int32} {h0 : Hp} (hq :
  K ((((x0.toUInt64 >>> (x2.toInt64.toUInt64 &&& Int64.toUInt64 63)).toInt64).toInt32) &&& (255 : Int32)) h0) : Ca d m_Ff_byteOf [.long x0, .int x2] h0 (QI K) := by
  show Wp _ _ 0 [some (.long x0), none, some (.int x2)] [] h0 _
  refine V.lload_n d_Ff_byteOf_0 rfl ?_
  refine V.iload_n d_Ff_byteOf_1 rfl ?_
  refine V.lushr d_Ff_byteOf_2 ?_
  refine V.l2i d_Ff_byteOf_3 ?_
  refine V.sipush (x := 255) d_Ff_byteOf_4 (by decide) ?_
  refine V.iand d_Ff_byteOf_7 ?_
  refine V.iret d_Ff_byteOf_8 rfl ?_
  exact V.rI hq
theorem w_Ff_doubleOf {d : Nat} {K : UInt64 → Hp → Prop} {x0 : Int64} {h0 : Hp} (hq :
  (∀ v1 : Int32, v1 = ((((x0.toUInt64 >>> ((52 : Int32).toInt64.toUInt64 &&& Int64.toUInt64 63)).toInt64).toInt32) &&& (2047 : Int32)) → (∀ v2 : Int64, v2 = (x0 &&& (4503599627370495 : Int64)) → (if v1 = (2047 : Int32) then (if v2 = (0 : Int64) then Wp d m_Ff_doubleOf 31 [some (.long x0), none, some (.int v1), some (.long v2), none, none, none, none, none] [] h0 (QD K) else K (0 : UInt64) h0) else Wp d m_Ff_doubleOf 31 [some (.long x0), none, some (.int v1), some (.long v2), none, none, none, none, none] [] h0 (QD K))))) : Ca d m_Ff_doubleOf [.long x0] h0 (QD K) := by
  show Wp _ _ 0 [some (.long x0), none, none, none, none, none, none, none, none] [] h0 _
  refine V.lload_n d_Ff_doubleOf_0 rfl ?_
  refine V.bipush (x := 52) d_Ff_doubleOf_1 (by decide) ?_
  refine V.lushr d_Ff_doubleOf_3 ?_
  refine V.l2i d_Ff_doubleOf_4 ?_
  refine V.sipush (x := 2047) d_Ff_doubleOf_5 (by decide) ?_
  refine V.iand d_Ff_doubleOf_8 ?_
  replace hq := hq _ rfl
  refine V.istore_n (l' := [_, _, _, _, _, _, _, _, _]) d_Ff_doubleOf_9 rfl (ltb rfl) ?_
  refine V.lload_n d_Ff_doubleOf_10 rfl ?_
  refine V.ldc2_w d_Ff_doubleOf_11 rfl ?_
  refine V.land d_Ff_doubleOf_14 ?_
  replace hq := hq _ rfl
  refine V.lstore_n (l' := [_, _, _, _, _, _, _, _, _]) d_Ff_doubleOf_15 rfl (ltb rfl) ?_
  refine V.iload_n d_Ff_doubleOf_16 rfl ?_
  refine V.sipush (x := 2047) d_Ff_doubleOf_17 (by decide) ?_
  refine V.ic_ne (t := 31) d_Ff_doubleOf_20 ⟨rfl, rfl⟩ (fun hc => ?_) (fun hc => ?_)
  · replace hq := ifp hc hq
    refine V.lload_n d_Ff_doubleOf_23 rfl ?_
    refine V.lconst (x := 0) d_Ff_doubleOf_24 (by decide) ?_
    refine V.lc_eq d_Ff_doubleOf_25 d_Ff_doubleOf_26 ⟨rfl, rfl⟩ (fun hc => ?_) (fun hc => ?_)
    · replace hq := ifp hc hq
      exact hq
    · replace hq := ifn hc hq
      refine V.dconst0 d_Ff_doubleOf_29 ?_
      refine V.dret d_Ff_doubleOf_30 rfl ?_
      exact V.rD hq
  · replace hq := ifn hc hq
    exact hq
theorem w_Ff_doubleOf_31 {d : Nat} {K : UInt64 → Hp → Prop} {x0 : Int64} {x2 : Int32} {x3 : Int64} {y5 : Option Value} {y6 : Option Value} {y7 : Option Value} {y8 : Option Value} {h0 : Hp} (hq :
  (if x2 = 0 then (∀ v3 : UInt64, v3 = (FP.l2d x3) → (if x0 < (0 : Int64) then ((FP.dmul v3 (13830554455654793216 : UInt64)) &&& 0x7fffffffffffffff ≤ 0x7ff0000000000000 ∧ (∀ v5 : UInt64, v5 = (FP.dmul v3 (13830554455654793216 : UInt64)) → (∀ v6 : Int32, v6 = ((if x2 < (1 : Int32) then (1 : Int32) else x2) - (1075 : Int32)) → Wp d m_Ff_doubleOf 75 [some (.long x0), none, some (.int x2), some (.long x3), none, some (.double v5), none, some (.int v6), some (.int (0 : Int32))] [] h0 (QD K)))) else (∀ v7 : Int32, v7 = ((if x2 < (1 : Int32) then (1 : Int32) else x2) - (1075 : Int32)) → Wp d m_Ff_doubleOf 75 [some (.long x0), none, some (.int x2), some (.long x3), none, some (.double v3), none, some (.int v7), some (.int (0 : Int32))] [] h0 (QD K)))) else (∀ v8 : UInt64, v8 = (FP.l2d (x3 + (4503599627370496 : Int64))) → (if x0 < (0 : Int64) then ((FP.dmul v8 (13830554455654793216 : UInt64)) &&& 0x7fffffffffffffff ≤ 0x7ff0000000000000 ∧ (∀ v10 : UInt64, v10 = (FP.dmul v8 (13830554455654793216 : UInt64)) → (∀ v11 : Int32, v11 = ((if x2 < (1 : Int32) then (1 : Int32) else x2) - (1075 : Int32)) → Wp d m_Ff_doubleOf 75 [some (.long x0), none, some (.int x2), some (.long x3), none, some (.double v10), none, some (.int v11), some (.int (0 : Int32))] [] h0 (QD K)))) else (∀ v12 : Int32, v12 = ((if x2 < (1 : Int32) then (1 : Int32) else x2) - (1075 : Int32)) → Wp d m_Ff_doubleOf 75 [some (.long x0), none, some (.int x2), some (.long x3), none, some (.double v8), none, some (.int v12), some (.int (0 : Int32))] [] h0 (QD K)))))) : Wp d m_Ff_doubleOf 31 [some (.long x0), none, some (.int x2), some (.long x3), none, y5, y6, y7, y8] [] h0 (QD K) := by
  refine V.iload_n d_Ff_doubleOf_31 rfl ?_
  refine V.if_ne (t := 39) d_Ff_doubleOf_32 ⟨rfl, rfl⟩ (fun hc => ?_) (fun hc => ?_)
  · replace hq := ifp hc hq
    refine V.lload_n d_Ff_doubleOf_35 rfl ?_
    refine V.goto (t := 44) d_Ff_doubleOf_36 ⟨rfl, rfl⟩ ?_
    refine V.l2d d_Ff_doubleOf_44 ?_
    replace hq := hq _ rfl
    refine V.dstore (l' := [_, _, _, _, _, _, _, _, _]) d_Ff_doubleOf_45 rfl (ltb rfl) ?_
    refine V.lload_n d_Ff_doubleOf_47 rfl ?_
    refine V.lconst (x := 0) d_Ff_doubleOf_48 (by decide) ?_
    refine V.lc_ge d_Ff_doubleOf_49 d_Ff_doubleOf_50 ⟨rfl, rfl⟩ (fun hc => ?_) (fun hc => ?_)
    · replace hq := ifp hc hq
      refine V.dload d_Ff_doubleOf_53 rfl ?_
      refine V.ldc2_w d_Ff_doubleOf_55 rfl ?_
      obtain ⟨g4, hq⟩ := hq
      refine V.dmul d_Ff_doubleOf_58 g4 ?_
      replace hq := hq _ rfl
      refine V.dstore (l' := [_, _, _, _, _, _, _, _, _]) d_Ff_doubleOf_59 rfl (ltb rfl) ?_
      refine V.iload_n d_Ff_doubleOf_61 rfl ?_
      refine V.iconst (x := 1) d_Ff_doubleOf_62 (by decide) ?_
      refine V.maxI d_Ff_doubleOf_63 rfl (leb rfl) ?_
      refine V.sipush (x := 1075) d_Ff_doubleOf_66 (by decide) ?_
      refine V.isub d_Ff_doubleOf_69 ?_
      replace hq := hq _ rfl
      refine V.istore (l' := [_, _, _, _, _, _, _, _, _]) d_Ff_doubleOf_70 rfl (ltb rfl) ?_
      refine V.iconst (x := 0) d_Ff_doubleOf_72 (by decide) ?_
      refine V.istore (l' := [_, _, _, _, _, _, _, _, _]) d_Ff_doubleOf_73 rfl (ltb rfl) ?_
      exact hq
    · replace hq := ifn hc hq
      refine V.iload_n d_Ff_doubleOf_61 rfl ?_
      refine V.iconst (x := 1) d_Ff_doubleOf_62 (by decide) ?_
      refine V.maxI d_Ff_doubleOf_63 rfl (leb rfl) ?_
      refine V.sipush (x := 1075) d_Ff_doubleOf_66 (by decide) ?_
      refine V.isub d_Ff_doubleOf_69 ?_
      replace hq := hq _ rfl
      refine V.istore (l' := [_, _, _, _, _, _, _, _, _]) d_Ff_doubleOf_70 rfl (ltb rfl) ?_
      refine V.iconst (x := 0) d_Ff_doubleOf_72 (by decide) ?_
      refine V.istore (l' := [_, _, _, _, _, _, _, _, _]) d_Ff_doubleOf_73 rfl (ltb rfl) ?_
      exact hq
  · replace hq := ifn hc hq
    refine V.lload_n d_Ff_doubleOf_39 rfl ?_
    refine V.ldc2_w d_Ff_doubleOf_40 rfl ?_
    refine V.ladd d_Ff_doubleOf_43 ?_
    refine V.l2d d_Ff_doubleOf_44 ?_
    replace hq := hq _ rfl
    refine V.dstore (l' := [_, _, _, _, _, _, _, _, _]) d_Ff_doubleOf_45 rfl (ltb rfl) ?_
    refine V.lload_n d_Ff_doubleOf_47 rfl ?_
    refine V.lconst (x := 0) d_Ff_doubleOf_48 (by decide) ?_
    refine V.lc_ge d_Ff_doubleOf_49 d_Ff_doubleOf_50 ⟨rfl, rfl⟩ (fun hc => ?_) (fun hc => ?_)
    · replace hq := ifp hc hq
      refine V.dload d_Ff_doubleOf_53 rfl ?_
      refine V.ldc2_w d_Ff_doubleOf_55 rfl ?_
      obtain ⟨g9, hq⟩ := hq
      refine V.dmul d_Ff_doubleOf_58 g9 ?_
      replace hq := hq _ rfl
      refine V.dstore (l' := [_, _, _, _, _, _, _, _, _]) d_Ff_doubleOf_59 rfl (ltb rfl) ?_
      refine V.iload_n d_Ff_doubleOf_61 rfl ?_
      refine V.iconst (x := 1) d_Ff_doubleOf_62 (by decide) ?_
      refine V.maxI d_Ff_doubleOf_63 rfl (leb rfl) ?_
      refine V.sipush (x := 1075) d_Ff_doubleOf_66 (by decide) ?_
      refine V.isub d_Ff_doubleOf_69 ?_
      replace hq := hq _ rfl
      refine V.istore (l' := [_, _, _, _, _, _, _, _, _]) d_Ff_doubleOf_70 rfl (ltb rfl) ?_
      refine V.iconst (x := 0) d_Ff_doubleOf_72 (by decide) ?_
      refine V.istore (l' := [_, _, _, _, _, _, _, _, _]) d_Ff_doubleOf_73 rfl (ltb rfl) ?_
      exact hq
    · replace hq := ifn hc hq
      refine V.iload_n d_Ff_doubleOf_61 rfl ?_
      refine V.iconst (x := 1) d_Ff_doubleOf_62 (by decide) ?_
      refine V.maxI d_Ff_doubleOf_63 rfl (leb rfl) ?_
      refine V.sipush (x := 1075) d_Ff_doubleOf_66 (by decide) ?_
      refine V.isub d_Ff_doubleOf_69 ?_
      replace hq := hq _ rfl
      refine V.istore (l' := [_, _, _, _, _, _, _, _, _]) d_Ff_doubleOf_70 rfl (ltb rfl) ?_
      refine V.iconst (x := 0) d_Ff_doubleOf_72 (by decide) ?_
      refine V.istore (l' := [_, _, _, _, _, _, _, _, _]) d_Ff_doubleOf_73 rfl (ltb rfl) ?_
      exact hq
theorem w_Ff_doubleOf_75 {d : Nat} {K : UInt64 → Hp → Prop} {y0 : Option Value} {y1 : Option Value} {y2 : Option Value} {y3 : Option Value} {y4 : Option Value} {x5 : UInt64} {x7 : Int32} {x8 : Int32} {h0 : Hp} (hq :
  (if x8 < x7 then ((FP.dmul x5 (4611686018427387904 : UInt64)) &&& 0x7fffffffffffffff ≤ 0x7ff0000000000000 ∧ (∀ v14 : UInt64, v14 = (FP.dmul x5 (4611686018427387904 : UInt64)) → (∀ v15 : Int32, v15 = (x8 + 1) → Wp d m_Ff_doubleOf 75 [y0, y1, y2, y3, (yk y4), some (.double v14), none, some (.int x7), some (.int v15)] [] h0 (QD K)))) else Wp d m_Ff_doubleOf 99 [y0, y1, y2, y3, y4, some (.double x5), none, some (.int x7), some (.int (0 : Int32))] [] h0 (QD K))) : Wp d m_Ff_doubleOf 75 [y0, y1, y2, y3, y4, some (.double x5), none, some (.int x7), some (.int x8)] [] h0 (QD K) := by
  refine V.iload d_Ff_doubleOf_75 rfl ?_
  refine V.iload d_Ff_doubleOf_77 rfl ?_
  refine V.ic_ge (t := 96) d_Ff_doubleOf_79 ⟨rfl, rfl⟩ (fun hc => ?_) (fun hc => ?_)
  · replace hq := ifp hc hq
    refine V.dload d_Ff_doubleOf_82 rfl ?_
    refine V.ldc2_w d_Ff_doubleOf_84 rfl ?_
    obtain ⟨g13, hq⟩ := hq
    refine V.dmul d_Ff_doubleOf_87 g13 ?_
    replace hq := hq _ rfl
    refine V.dstore (l' := [_, _, _, _, _, _, _, _, _]) d_Ff_doubleOf_88 ((st2_alt (ltb rfl)).trans rfl) (ltb rfl) ?_
    replace hq := hq _ rfl
    refine V.iinc (l' := [_, _, _, _, _, _, _, _, _]) d_Ff_doubleOf_90 rfl (show _ + _ = _ + (1 : Int32) from rfl) rfl ?_
    refine V.goto (t := 75) d_Ff_doubleOf_93 ⟨rfl, rfl⟩ ?_
    exact hq
  · replace hq := ifn hc hq
    refine V.iconst (x := 0) d_Ff_doubleOf_96 (by decide) ?_
    refine V.istore (l' := [_, _, _, _, _, _, _, _, _]) d_Ff_doubleOf_97 rfl (ltb rfl) ?_
    exact hq
theorem w_Ff_doubleOf_99 {d : Nat} {K : UInt64 → Hp → Prop} {y0 : Option Value} {y1 : Option Value} {y2 : Option Value} {y3 : Option Value} {y4 : Option Value} {x5 : UInt64} {x7 : Int32} {x8 : Int32} {h0 : Hp} (hq :
  (if x7 < x8 then ((FP.dmul x5 (4602678819172646912 : UInt64)) &&& 0x7fffffffffffffff ≤ 0x7ff0000000000000 ∧ (∀ v17 : UInt64, v17 = (FP.dmul x5 (4602678819172646912 : UInt64)) → (∀ v18 : Int32, v18 = (x8 + (-1)) → Wp d m_Ff_doubleOf 99 [y0, y1, y2, y3, (yk y4), some (.double v17), none, some (.int x7), some (.int v18)] [] h0 (QD K)))) else K x5 h0)) : Wp d m_Ff_doubleOf 99 [y0, y1, y2, y3, y4, some (.double x5), none, some (.int x7), some (.int x8)] [] h0 (QD K) := by
  refine V.iload d_Ff_doubleOf_99 rfl ?_
  refine V.iload d_Ff_doubleOf_101 rfl ?_
  refine V.ic_le (t := 120) d_Ff_doubleOf_103 ⟨rfl, rfl⟩ (fun hc => ?_) (fun hc => ?_)
  · replace hq := ifp hc hq
    refine V.dload d_Ff_doubleOf_106 rfl ?_
    refine V.ldc2_w d_Ff_doubleOf_108 rfl ?_
    obtain ⟨g16, hq⟩ := hq
    refine V.dmul d_Ff_doubleOf_111 g16 ?_
    replace hq := hq _ rfl
    refine V.dstore (l' := [_, _, _, _, _, _, _, _, _]) d_Ff_doubleOf_112 ((st2_alt (ltb rfl)).trans rfl) (ltb rfl) ?_
    replace hq := hq _ rfl
    refine V.iinc (l' := [_, _, _, _, _, _, _, _, _]) d_Ff_doubleOf_114 rfl (show _ + _ = _ + (-1 : Int32) from rfl) rfl ?_
    refine V.goto (t := 99) d_Ff_doubleOf_117 ⟨rfl, rfl⟩ ?_
    exact hq
  · replace hq := ifn hc hq
    refine V.dload d_Ff_doubleOf_120 rfl ?_
    refine V.dret d_Ff_doubleOf_122 rfl ?_
    exact V.rD hq
