theorem w_Mo_capped {d : Nat} {K : Int64 → Hp → Prop} {x0 : Nat} {x1 : Int64} {h0 : Hp} (hq :
  (if (1000000 : Int64) < x1 then K (1000000 : Int64) h0 else K x1 h0)) : Ca d m_Mo_capped [.ref x0, .long x1] h0 (QL K) := by
  show Wp _ _ 0 [some (.ref x0), some (.long x1), none] [] h0 _
  refine V.lload_n d_Mo_capped_0 rfl ?_
  refine V.ldc2_w d_Mo_capped_1 rfl ?_
  refine V.lc_le d_Mo_capped_4 d_Mo_capped_5 ⟨rfl, rfl⟩ (fun hc => ?_) (fun hc => ?_)
  · replace hq := ifp hc hq
    refine V.ldc2_w d_Mo_capped_8 rfl ?_
    refine V.goto (t := 15) d_Mo_capped_11 ⟨rfl, rfl⟩ ?_
    refine V.lret d_Mo_capped_15 rfl ?_
    exact V.rL hq
  · replace hq := ifn hc hq
    refine V.lload_n d_Mo_capped_14 rfl ?_
    refine V.lret d_Mo_capped_15 rfl ?_
    exact V.rL hq
theorem w_Mo_sumFields {d : Nat} {K : Hp → Prop} {x0 : Nat} {x1 : Int32} {h0 : Hp} (hq :
  ((hS h0 x0).1 = 8 ∧ ((hS h0 (hR h0 x0 31)).1 = 21 ∧ (¬ (hR h0 x0 31) = 1 ∧ (ainr x1 (hS h0 (hR h0 x0 31)).2 = true ∧ (∀ h5 : Hp, h5 = sL h0 (hR h0 x0 31) x1.toNatClampNeg (0 : Int64) → ((hS h0 (hR h5 x0 32)).1 = 21 ∧ (¬ (hR h5 x0 32) = 1 ∧ (ainr x1 (hS h0 (hR h5 x0 32)).2 = true ∧ (∀ h9 : Hp, h9 = sL h5 (hR h5 x0 32) x1.toNatClampNeg (0 : Int64) → ((hS h0 (hR h9 x0 20)).1 = 20 ∧ (ainr x1 (hS h0 (hR h9 x0 20)).2 = true ∧ (∀ v12 : Int32, v12 = (hI h9 (hR h9 x0 20) x1.toNatClampNeg) → Wp d m_Mo_sumFields 23 [some (.ref x0), some (.int x1), some (.int (0 : Int32)), some (.int v12)] [] h9 (QV K)))))))))))))) : Ca d m_Mo_sumFields [.ref x0, .int x1] h0 (QV K) := by
  show Wp _ _ 0 [some (.ref x0), some (.int x1), none, none] [] h0 _
  refine V.iconst (x := 0) d_Mo_sumFields_0 (by decide) ?_
  refine V.istore_n (l' := [_, _, _, _]) d_Mo_sumFields_1 rfl (ltb rfl) ?_
  refine V.aload_n d_Mo_sumFields_2 rfl ?_
  obtain ⟨g1, hq⟩ := hq
  refine V.get2 d_Mo_sumFields_3 rfl (List.mem_singleton.mpr g1) ?_
  refine V.iload_n d_Mo_sumFields_6 rfl ?_
  refine V.lconst (x := 0) d_Mo_sumFields_7 (by decide) ?_
  obtain ⟨g2, hq⟩ := hq
  obtain ⟨g3, hq⟩ := hq
  obtain ⟨g4, hq⟩ := hq
  refine V.lastore d_Mo_sumFields_8 g2 g3 g4 ?_
  replace hq := hq _ rfl
  refine V.aload_n d_Mo_sumFields_9 rfl ?_
  refine V.get2 d_Mo_sumFields_10 rfl (List.mem_singleton.mpr g1) ?_
  refine V.iload_n d_Mo_sumFields_13 rfl ?_
  refine V.lconst (x := 0) d_Mo_sumFields_14 (by decide) ?_
  obtain ⟨g6, hq⟩ := hq
  obtain ⟨g7, hq⟩ := hq
  obtain ⟨g8, hq⟩ := hq
  refine V.lastore d_Mo_sumFields_15 g6 g7 g8 ?_
  replace hq := hq _ rfl
  refine V.aload_n d_Mo_sumFields_16 rfl ?_
  refine V.get2 d_Mo_sumFields_17 rfl (List.mem_singleton.mpr g1) ?_
  refine V.iload_n d_Mo_sumFields_20 rfl ?_
  obtain ⟨g10, hq⟩ := hq
  obtain ⟨g11, hq⟩ := hq
  refine V.iaload d_Mo_sumFields_21 g10 g11 ?_
  replace hq := hq _ rfl
  refine V.istore_n (l' := [_, _, _, _]) d_Mo_sumFields_22 rfl (ltb rfl) ?_
  exact hq
theorem w_Mo_sumFields_23 {d : Nat} {K : Hp → Prop} {x0 : Nat} {x1 : Int32} {x2 : Int32} {x3 : Int32} {h0 : Hp} (hq :
  (if x3 < 0 then K h0 else ((hS h0 x0).1 = 8 ∧ ((hS h0 (hR h0 x0 12)).1 = 20 ∧ (ainr x3 (hS h0 (hR h0 x0 12)).2 = true ∧ (if (hI h0 (hR h0 x0 12) x3.toNatClampNeg) = (112 : Int32) then ((hS h0 (hR h0 x0 13)).1 = 20 ∧ (ainr x3 (hS h0 (hR h0 x0 13)).2 = true ∧ (∀ v18 : Int32, v18 = (x2 + (hI h0 (hR h0 x0 13) x3.toNatClampNeg)) → Wp d m_Mo_sumFields 47 [some (.ref x0), some (.int x1), some (.int v18), some (.int x3)] [] h0 (QV K)))) else Wp d m_Mo_sumFields 47 [some (.ref x0), some (.int x1), some (.int x2), some (.int x3)] [] h0 (QV K))))))) : Wp d m_Mo_sumFields 23 [some (.ref x0), some (.int x1), some (.int x2), some (.int x3)] [] h0 (QV K) := by
  refine V.iload_n d_Mo_sumFields_23 rfl ?_
  refine V.if_lt (t := 172) d_Mo_sumFields_24 ⟨rfl, rfl⟩ (fun hc => ?_) (fun hc => ?_)
  · replace hq := ifp hc hq
    refine V.vret d_Mo_sumFields_172 rfl ?_
    exact V.rV hq
  · replace hq := ifn hc hq
    refine V.aload_n d_Mo_sumFields_27 rfl ?_
    obtain ⟨g13, hq⟩ := hq
    refine V.get2 d_Mo_sumFields_28 rfl (List.mem_singleton.mpr g13) ?_
    refine V.iload_n d_Mo_sumFields_31 rfl ?_
    obtain ⟨g14, hq⟩ := hq
    obtain ⟨g15, hq⟩ := hq
    refine V.iaload d_Mo_sumFields_32 g14 g15 ?_
    refine V.bipush (x := 112) d_Mo_sumFields_33 (by decide) ?_
    refine V.ic_ne (t := 47) d_Mo_sumFields_35 ⟨rfl, rfl⟩ (fun hc => ?_) (fun hc => ?_)
    · replace hq := ifp hc hq
      refine V.iload_n d_Mo_sumFields_38 rfl ?_
      refine V.aload_n d_Mo_sumFields_39 rfl ?_
      refine V.get2 d_Mo_sumFields_40 rfl (List.mem_singleton.mpr g13) ?_
      refine V.iload_n d_Mo_sumFields_43 rfl ?_
      obtain ⟨g16, hq⟩ := hq
      obtain ⟨g17, hq⟩ := hq
      refine V.iaload d_Mo_sumFields_44 g16 g17 ?_
      refine V.iadd d_Mo_sumFields_45 ?_
      replace hq := hq _ rfl
      refine V.istore_n (l' := [_, _, _, _]) d_Mo_sumFields_46 rfl (ltb rfl) ?_
      exact hq
    · replace hq := ifn hc hq
      exact hq
theorem w_Mo_sumFields_47 {d : Nat} {K : Hp → Prop} {x0 : Nat} {x1 : Int32} {x2 : Int32} {x3 : Int32} {h0 : Hp} (hq :
  ((hS h0 x0).1 = 8 ∧ ((hS h0 (hR h0 x0 12)).1 = 20 ∧ (ainr x3 (hS h0 (hR h0 x0 12)).2 = true ∧ (if (hI h0 (hR h0 x0 12) x3.toNatClampNeg) = (112 : Int32) then ((hS h0 (hR h0 x0 21)).1 = 20 ∧ (ainr x3 (hS h0 (hR h0 x0 21)).2 = true ∧ (if (hI h0 (hR h0 x0 21) x3.toNatClampNeg) < 0 then Wp d m_Mo_sumFields 86 [some (.ref x0), some (.int x1), some (.int x2), some (.int x3)] [] h0 (QV K) else (ainr (hI h0 (hR h0 x0 21) x3.toNatClampNeg) (hS h0 (hR h0 x0 12)).2 = true ∧ (if (hI h0 (hR h0 x0 12) (hI h0 (hR h0 x0 21) x3.toNatClampNeg).toNatClampNeg) = (112 : Int32) then (∀ v25 : Int32, v25 = (hI h0 (hR h0 x0 21) x3.toNatClampNeg) → Wp d m_Mo_sumFields 23 [some (.ref x0), some (.int x1), some (.int x2), some (.int v25)] [] h0 (QV K)) else Wp d m_Mo_sumFields 86 [some (.ref x0), some (.int x1), some (.int x2), some (.int x3)] [] h0 (QV K)))))) else Wp d m_Mo_sumFields 86 [some (.ref x0), some (.int x1), some (.int x2), some (.int x3)] [] h0 (QV K)))))) : Wp d m_Mo_sumFields 47 [some (.ref x0), some (.int x1), some (.int x2), some (.int x3)] [] h0 (QV K) := by
  refine V.aload_n d_Mo_sumFields_47 rfl ?_
  obtain ⟨g19, hq⟩ := hq
  refine V.get2 d_Mo_sumFields_48 rfl (List.mem_singleton.mpr g19) ?_
  refine V.iload_n d_Mo_sumFields_51 rfl ?_
  obtain ⟨g20, hq⟩ := hq
  obtain ⟨g21, hq⟩ := hq
  refine V.iaload d_Mo_sumFields_52 g20 g21 ?_
  refine V.bipush (x := 112) d_Mo_sumFields_53 (by decide) ?_
  refine V.ic_ne (t := 86) d_Mo_sumFields_55 ⟨rfl, rfl⟩ (fun hc => ?_) (fun hc => ?_)
  · replace hq := ifp hc hq
    refine V.aload_n d_Mo_sumFields_58 rfl ?_
    refine V.get2 d_Mo_sumFields_59 rfl (List.mem_singleton.mpr g19) ?_
    refine V.iload_n d_Mo_sumFields_62 rfl ?_
    obtain ⟨g22, hq⟩ := hq
    obtain ⟨g23, hq⟩ := hq
    refine V.iaload d_Mo_sumFields_63 g22 g23 ?_
    refine V.if_lt (t := 86) d_Mo_sumFields_64 ⟨rfl, rfl⟩ (fun hc => ?_) (fun hc => ?_)
    · replace hq := ifp hc hq
      exact hq
    · replace hq := ifn hc hq
      refine V.aload_n d_Mo_sumFields_67 rfl ?_
      refine V.get2 d_Mo_sumFields_68 rfl (List.mem_singleton.mpr g19) ?_
      refine V.aload_n d_Mo_sumFields_71 rfl ?_
      refine V.get2 d_Mo_sumFields_72 rfl (List.mem_singleton.mpr g19) ?_
      refine V.iload_n d_Mo_sumFields_75 rfl ?_
      refine V.iaload d_Mo_sumFields_76 g22 g23 ?_
      obtain ⟨g24, hq⟩ := hq
      refine V.iaload d_Mo_sumFields_77 g20 g24 ?_
      refine V.bipush (x := 112) d_Mo_sumFields_78 (by decide) ?_
      refine V.ic_ne (t := 86) d_Mo_sumFields_80 ⟨rfl, rfl⟩ (fun hc => ?_) (fun hc => ?_)
      · replace hq := ifp hc hq
        refine V.goto (t := 162) d_Mo_sumFields_83 ⟨rfl, rfl⟩ ?_
        refine V.aload_n d_Mo_sumFields_162 rfl ?_
        refine V.get2 d_Mo_sumFields_163 rfl (List.mem_singleton.mpr g19) ?_
        refine V.iload_n d_Mo_sumFields_166 rfl ?_
        refine V.iaload d_Mo_sumFields_167 g22 g23 ?_
        replace hq := hq _ rfl
        refine V.istore_n (l' := [_, _, _, _]) d_Mo_sumFields_168 rfl (ltb rfl) ?_
        refine V.goto (t := 23) d_Mo_sumFields_169 ⟨rfl, rfl⟩ ?_
        exact hq
      · replace hq := ifn hc hq
        exact hq
  · replace hq := ifn hc hq
    exact hq
set_option maxRecDepth 100000 in
theorem w_Mo_sumFields_86 {d : Nat} {K : Hp → Prop} {x0 : Nat} {x1 : Int32} {x2 : Int32} {x3 : Int32} {h0 : Hp} (hq :
  ((hS h0 x0).1 = 8 ∧ ((hS h0 (hR h0 x0 31)).1 = 21 ∧ (ainr x1 (hS h0 (hR h0 x0 31)).2 = true ∧ ((hS h0 (hR h0 x0 12)).1 = 20 ∧ (ainr x3 (hS h0 (hR h0 x0 12)).2 = true ∧ (if (hI h0 (hR h0 x0 12) x3.toNatClampNeg) = (112 : Int32) then (¬ (hR h0 x0 31) = 1 ∧ (∀ h32 : Hp, h32 = sL h0 (hR h0 x0 31) x1.toNatClampNeg ((hL h0 (hR h0 x0 31) x1.toNatClampNeg) + (((x2 + (7 : Int32)) / (8 : Int32)).toInt64)) → ((hS h0 (hR h32 x0 32)).1 = 21 ∧ (ainr x1 (hS h0 (hR h32 x0 32)).2 = true ∧ ((hS h0 (hR h32 x0 12)).1 = 20 ∧ (ainr x3 (hS h0 (hR h32 x0 12)).2 = true ∧ (if (hI h32 (hR h32 x0 12) x3.toNatClampNeg) = (112 : Int32) then (¬ (hR h32 x0 32) = 1 ∧ (∀ h38 : Hp, h38 = sL h32 (hR h32 x0 32) x1.toNatClampNeg ((hL h32 (hR h32 x0 32) x1.toNatClampNeg) + (((x2 + (7 : Int32)) / (8 : Int32)).toInt64)) → ((hS h0 (hR h38 x0 21)).1 = 20 ∧ (ainr x3 (hS h0 (hR h38 x0 21)).2 = true ∧ (∀ v41 : Int32, v41 = (hI h38 (hR h38 x0 21) x3.toNatClampNeg) → Wp d m_Mo_sumFields 23 [some (.ref x0), some (.int x1), some (.int (0 : Int32)), some (.int v41)] [] h38 (QV K)))))) else (ainr x3 (hS h0 (hR h32 x0 32)).2 = true ∧ (¬ (hR h32 x0 32) = 1 ∧ (∀ h44 : Hp, h44 = sL h32 (hR h32 x0 32) x1.toNatClampNeg ((hL h32 (hR h32 x0 32) x1.toNatClampNeg) + (hL h32 (hR h32 x0 32) x3.toNatClampNeg)) → ((hS h0 (hR h44 x0 21)).1 = 20 ∧ (ainr x3 (hS h0 (hR h44 x0 21)).2 = true ∧ (∀ v47 : Int32, v47 = (hI h44 (hR h44 x0 21) x3.toNatClampNeg) → Wp d m_Mo_sumFields 23 [some (.ref x0), some (.int x1), some (.int (0 : Int32)), some (.int v47)] [] h44 (QV K)))))))))))))) else (ainr x3 (hS h0 (hR h0 x0 31)).2 = true ∧ (¬ (hR h0 x0 31) = 1 ∧ (∀ h50 : Hp, h50 = sL h0 (hR h0 x0 31) x1.toNatClampNeg ((hL h0 (hR h0 x0 31) x1.toNatClampNeg) + (hL h0 (hR h0 x0 31) x3.toNatClampNeg)) → ((hS h0 (hR h50 x0 32)).1 = 21 ∧ (ainr x1 (hS h0 (hR h50 x0 32)).2 = true ∧ ((hS h0 (hR h50 x0 12)).1 = 20 ∧ (ainr x3 (hS h0 (hR h50 x0 12)).2 = true ∧ (if (hI h50 (hR h50 x0 12) x3.toNatClampNeg) = (112 : Int32) then (¬ (hR h50 x0 32) = 1 ∧ (∀ h56 : Hp, h56 = sL h50 (hR h50 x0 32) x1.toNatClampNeg ((hL h50 (hR h50 x0 32) x1.toNatClampNeg) + (((x2 + (7 : Int32)) / (8 : Int32)).toInt64)) → ((hS h0 (hR h56 x0 21)).1 = 20 ∧ (ainr x3 (hS h0 (hR h56 x0 21)).2 = true ∧ (∀ v59 : Int32, v59 = (hI h56 (hR h56 x0 21) x3.toNatClampNeg) → Wp d m_Mo_sumFields 23 [some (.ref x0), some (.int x1), some (.int (0 : Int32)), some (.int v59)] [] h56 (QV K)))))) else (ainr x3 (hS h0 (hR h50 x0 32)).2 = true ∧ (¬ (hR h50 x0 32) = 1 ∧ (∀ h62 : Hp, h62 = sL h50 (hR h50 x0 32) x1.toNatClampNeg ((hL h50 (hR h50 x0 32) x1.toNatClampNeg) + (hL h50 (hR h50 x0 32) x3.toNatClampNeg)) → ((hS h0 (hR h62 x0 21)).1 = 20 ∧ (ainr x3 (hS h0 (hR h62 x0 21)).2 = true ∧ (∀ v65 : Int32, v65 = (hI h62 (hR h62 x0 21) x3.toNatClampNeg) → Wp d m_Mo_sumFields 23 [some (.ref x0), some (.int x1), some (.int (0 : Int32)), some (.int v65)] [] h62 (QV K)))))))))))))))))))))) : Wp d m_Mo_sumFields 86 [some (.ref x0), some (.int x1), some (.int x2), some (.int x3)] [] h0 (QV K) := by
  refine V.aload_n d_Mo_sumFields_86 rfl ?_
  obtain ⟨g26, hq⟩ := hq
  refine V.get2 d_Mo_sumFields_87 rfl (List.mem_singleton.mpr g26) ?_
  refine V.iload_n d_Mo_sumFields_90 rfl ?_
  refine V.dup2 d_Mo_sumFields_91 ?_
  obtain ⟨g27, hq⟩ := hq
  obtain ⟨g28, hq⟩ := hq
  refine V.laload d_Mo_sumFields_92 g27 g28 ?_
  refine V.aload_n d_Mo_sumFields_93 rfl ?_
  refine V.get2 d_Mo_sumFields_94 rfl (List.mem_singleton.mpr g26) ?_
  refine V.iload_n d_Mo_sumFields_97 rfl ?_
  obtain ⟨g29, hq⟩ := hq
  obtain ⟨g30, hq⟩ := hq
  refine V.iaload d_Mo_sumFields_98 g29 g30 ?_
  refine V.bipush (x := 112) d_Mo_sumFields_99 (by decide) ?_
  refine V.ic_ne (t := 115) d_Mo_sumFields_101 ⟨rfl, rfl⟩ (fun hc => ?_) (fun hc => ?_)
  · replace hq := ifp hc hq
    refine V.iload_n d_Mo_sumFields_104 rfl ?_
    refine V.bipush (x := 7) d_Mo_sumFields_105 (by decide) ?_
    refine V.iadd d_Mo_sumFields_107 ?_
    refine V.bipush (x := 8) d_Mo_sumFields_108 (by decide) ?_
    refine V.idiv d_Mo_sumFields_110 (by decide) ?_
    refine V.i2l d_Mo_sumFields_111 ?_
    refine V.goto (t := 121) d_Mo_sumFields_112 ⟨rfl, rfl⟩ ?_
    refine V.ladd d_Mo_sumFields_121 ?_
    obtain ⟨g31, hq⟩ := hq
    refine V.lastore d_Mo_sumFields_122 g27 g31 g28 ?_
    replace hq := hq _ rfl
    refine V.aload_n d_Mo_sumFields_123 rfl ?_
    refine V.get2 d_Mo_sumFields_124 rfl (List.mem_singleton.mpr g26) ?_
    refine V.iload_n d_Mo_sumFields_127 rfl ?_
    refine V.dup2 d_Mo_sumFields_128 ?_
    obtain ⟨g33, hq⟩ := hq
    obtain ⟨g34, hq⟩ := hq
    refine V.laload d_Mo_sumFields_129 g33 g34 ?_
    refine V.aload_n d_Mo_sumFields_130 rfl ?_
    refine V.get2 d_Mo_sumFields_131 rfl (List.mem_singleton.mpr g26) ?_
    refine V.iload_n d_Mo_sumFields_134 rfl ?_
    obtain ⟨g35, hq⟩ := hq
    obtain ⟨g36, hq⟩ := hq
    refine V.iaload d_Mo_sumFields_135 g35 g36 ?_
    refine V.bipush (x := 112) d_Mo_sumFields_136 (by decide) ?_
    refine V.ic_ne (t := 152) d_Mo_sumFields_138 ⟨rfl, rfl⟩ (fun hc => ?_) (fun hc => ?_)
    · replace hq := ifp hc hq
      refine V.iload_n d_Mo_sumFields_141 rfl ?_
      refine V.bipush (x := 7) d_Mo_sumFields_142 (by decide) ?_
      refine V.iadd d_Mo_sumFields_144 ?_
      refine V.bipush (x := 8) d_Mo_sumFields_145 (by decide) ?_
      refine V.idiv d_Mo_sumFields_147 (by decide) ?_
      refine V.i2l d_Mo_sumFields_148 ?_
      refine V.goto (t := 158) d_Mo_sumFields_149 ⟨rfl, rfl⟩ ?_
      refine V.ladd d_Mo_sumFields_158 ?_
      obtain ⟨g37, hq⟩ := hq
      refine V.lastore d_Mo_sumFields_159 g33 g37 g34 ?_
      replace hq := hq _ rfl
      refine V.iconst (x := 0) d_Mo_sumFields_160 (by decide) ?_
      refine V.istore_n (l' := [_, _, _, _]) d_Mo_sumFields_161 rfl (ltb rfl) ?_
      refine V.aload_n d_Mo_sumFields_162 rfl ?_
      refine V.get2 d_Mo_sumFields_163 rfl (List.mem_singleton.mpr g26) ?_
      refine V.iload_n d_Mo_sumFields_166 rfl ?_
      obtain ⟨g39, hq⟩ := hq
      obtain ⟨g40, hq⟩ := hq
      refine V.iaload d_Mo_sumFields_167 g39 g40 ?_
      replace hq := hq _ rfl
      refine V.istore_n (l' := [_, _, _, _]) d_Mo_sumFields_168 rfl (ltb rfl) ?_
      refine V.goto (t := 23) d_Mo_sumFields_169 ⟨rfl, rfl⟩ ?_
      exact hq
    · replace hq := ifn hc hq
      refine V.aload_n d_Mo_sumFields_152 rfl ?_
      refine V.get2 d_Mo_sumFields_153 rfl (List.mem_singleton.mpr g26) ?_
      refine V.iload_n d_Mo_sumFields_156 rfl ?_
      obtain ⟨g42, hq⟩ := hq
      refine V.laload d_Mo_sumFields_157 g33 g42 ?_
      refine V.ladd d_Mo_sumFields_158 ?_
      obtain ⟨g43, hq⟩ := hq
      refine V.lastore d_Mo_sumFields_159 g33 g43 g34 ?_
      replace hq := hq _ rfl
      refine V.iconst (x := 0) d_Mo_sumFields_160 (by decide) ?_
      refine V.istore_n (l' := [_, _, _, _]) d_Mo_sumFields_161 rfl (ltb rfl) ?_
      refine V.aload_n d_Mo_sumFields_162 rfl ?_
      refine V.get2 d_Mo_sumFields_163 rfl (List.mem_singleton.mpr g26) ?_
      refine V.iload_n d_Mo_sumFields_166 rfl ?_
      obtain ⟨g45, hq⟩ := hq
      obtain ⟨g46, hq⟩ := hq
      refine V.iaload d_Mo_sumFields_167 g45 g46 ?_
      replace hq := hq _ rfl
      refine V.istore_n (l' := [_, _, _, _]) d_Mo_sumFields_168 rfl (ltb rfl) ?_
      refine V.goto (t := 23) d_Mo_sumFields_169 ⟨rfl, rfl⟩ ?_
      exact hq
  · replace hq := ifn hc hq
    refine V.aload_n d_Mo_sumFields_115 rfl ?_
    refine V.get2 d_Mo_sumFields_116 rfl (List.mem_singleton.mpr g26) ?_
    refine V.iload_n d_Mo_sumFields_119 rfl ?_
    obtain ⟨g48, hq⟩ := hq
    refine V.laload d_Mo_sumFields_120 g27 g48 ?_
    refine V.ladd d_Mo_sumFields_121 ?_
    obtain ⟨g49, hq⟩ := hq
    refine V.lastore d_Mo_sumFields_122 g27 g49 g28 ?_
    replace hq := hq _ rfl
    refine V.aload_n d_Mo_sumFields_123 rfl ?_
    refine V.get2 d_Mo_sumFields_124 rfl (List.mem_singleton.mpr g26) ?_
    refine V.iload_n d_Mo_sumFields_127 rfl ?_
    refine V.dup2 d_Mo_sumFields_128 ?_
    obtain ⟨g51, hq⟩ := hq
    obtain ⟨g52, hq⟩ := hq
    refine V.laload d_Mo_sumFields_129 g51 g52 ?_
    refine V.aload_n d_Mo_sumFields_130 rfl ?_
    refine V.get2 d_Mo_sumFields_131 rfl (List.mem_singleton.mpr g26) ?_
    refine V.iload_n d_Mo_sumFields_134 rfl ?_
    obtain ⟨g53, hq⟩ := hq
    obtain ⟨g54, hq⟩ := hq
    refine V.iaload d_Mo_sumFields_135 g53 g54 ?_
    refine V.bipush (x := 112) d_Mo_sumFields_136 (by decide) ?_
    refine V.ic_ne (t := 152) d_Mo_sumFields_138 ⟨rfl, rfl⟩ (fun hc => ?_) (fun hc => ?_)
    · replace hq := ifp hc hq
      refine V.iload_n d_Mo_sumFields_141 rfl ?_
      refine V.bipush (x := 7) d_Mo_sumFields_142 (by decide) ?_
      refine V.iadd d_Mo_sumFields_144 ?_
      refine V.bipush (x := 8) d_Mo_sumFields_145 (by decide) ?_
      refine V.idiv d_Mo_sumFields_147 (by decide) ?_
      refine V.i2l d_Mo_sumFields_148 ?_
      refine V.goto (t := 158) d_Mo_sumFields_149 ⟨rfl, rfl⟩ ?_
      refine V.ladd d_Mo_sumFields_158 ?_
      obtain ⟨g55, hq⟩ := hq
      refine V.lastore d_Mo_sumFields_159 g51 g55 g52 ?_
      replace hq := hq _ rfl
      refine V.iconst (x := 0) d_Mo_sumFields_160 (by decide) ?_
      refine V.istore_n (l' := [_, _, _, _]) d_Mo_sumFields_161 rfl (ltb rfl) ?_
      refine V.aload_n d_Mo_sumFields_162 rfl ?_
      refine V.get2 d_Mo_sumFields_163 rfl (List.mem_singleton.mpr g26) ?_
      refine V.iload_n d_Mo_sumFields_166 rfl ?_
      obtain ⟨g57, hq⟩ := hq
      obtain ⟨g58, hq⟩ := hq
      refine V.iaload d_Mo_sumFields_167 g57 g58 ?_
      replace hq := hq _ rfl
      refine V.istore_n (l' := [_, _, _, _]) d_Mo_sumFields_168 rfl (ltb rfl) ?_
      refine V.goto (t := 23) d_Mo_sumFields_169 ⟨rfl, rfl⟩ ?_
      exact hq
    · replace hq := ifn hc hq
      refine V.aload_n d_Mo_sumFields_152 rfl ?_
      refine V.get2 d_Mo_sumFields_153 rfl (List.mem_singleton.mpr g26) ?_
      refine V.iload_n d_Mo_sumFields_156 rfl ?_
      obtain ⟨g60, hq⟩ := hq
      refine V.laload d_Mo_sumFields_157 g51 g60 ?_
      refine V.ladd d_Mo_sumFields_158 ?_
      obtain ⟨g61, hq⟩ := hq
      refine V.lastore d_Mo_sumFields_159 g51 g61 g52 ?_
      replace hq := hq _ rfl
      refine V.iconst (x := 0) d_Mo_sumFields_160 (by decide) ?_
      refine V.istore_n (l' := [_, _, _, _]) d_Mo_sumFields_161 rfl (ltb rfl) ?_
      refine V.aload_n d_Mo_sumFields_162 rfl ?_
      refine V.get2 d_Mo_sumFields_163 rfl (List.mem_singleton.mpr g26) ?_
      refine V.iload_n d_Mo_sumFields_166 rfl ?_
      obtain ⟨g63, hq⟩ := hq
      obtain ⟨g64, hq⟩ := hq
      refine V.iaload d_Mo_sumFields_167 g63 g64 ?_
      replace hq := hq _ rfl
      refine V.istore_n (l' := [_, _, _, _]) d_Mo_sumFields_168 rfl (ltb rfl) ?_
      refine V.goto (t := 23) d_Mo_sumFields_169 ⟨rfl, rfl⟩ ?_
      exact hq
set_option maxRecDepth 100000 in
theorem w_Mo_measure {d : Nat} {K : Hp → Prop} {x0 : Nat} {x1 : Int32} {h0 : Hp} (hq :
  ((hS h0 x0).1 = 8 ∧ ((hS h0 (hR h0 x0 12)).1 = 20 ∧ (ainr x1 (hS h0 (hR h0 x0 12)).2 = true ∧ (∀ v4 : Int32, v4 = (hI h0 (hR h0 x0 12) x1.toNatClampNeg) → ((hS h0 (hR h0 x0 20)).1 = 20 ∧ (ainr x1 (hS h0 (hR h0 x0 20)).2 = true ∧ (∀ v7 : Int32, v7 = (hI h0 (hR h0 x0 20) x1.toNatClampNeg) → ((hS h0 (hR h0 x0 33)).1 = 20 ∧ (ainr x1 (hS h0 (hR h0 x0 33)).2 = true ∧ (∀ v10 : Int32, v10 = (hI h0 (hR h0 x0 33) x1.toNatClampNeg) → (if v10 < 0 then Wp (d + 1) m_Mo_measure 39 [some (.ref x0), some (.int x1), some (.int v4), some (.int v7), some (.int v10), none, none, none, none, none] [] h0 (QV K) else ((hS h0 (hR h0 x0 29)).1 = 21 ∧ (ainr v10 (hS h0 (hR h0 x0 29)).2 = true ∧ (if (hL h0 (hR h0 x0 29) v10.toNatClampNeg) < (0 : Int64) then Wp (d + 1) m_Mo_measure 39 [some (.ref x0), some (.int x1), some (.int v4), some (.int v7), some (.int v10), none, none, none, none, none] [] h0 (QV K) else (∀ v13 : Int64, v13 = (hL h0 (hR h0 x0 29) v10.toNatClampNeg) → (if v10 < 0 then Wp (d + 1) m_Mo_measure 69 [some (.ref x0), some (.int x1), some (.int v4), some (.int v7), some (.int v10), some (.long v13), none, none, none, none] [] h0 (QV K) else ((hS h0 (hR h0 x0 30)).1 = 21 ∧ (ainr v10 (hS h0 (hR h0 x0 30)).2 = true ∧ (if (hL h0 (hR h0 x0 30) v10.toNatClampNeg) < (0 : Int64) then Wp (d + 1) m_Mo_measure 69 [some (.ref x0), some (.int x1), some (.int v4), some (.int v7), some (.int v10), some (.long v13), none, none, none, none] [] h0 (QV K) else (∀ v16 : Int64, v16 = (hL h0 (hR h0 x0 30) v10.toNatClampNeg) → (if v4 = (122 : Int32) then ((hS h0 (hR h0 x0 31)).1 = 21 ∧ (¬ (hR h0 x0 31) = 1 ∧ (ainr x1 (hS h0 (hR h0 x0 31)).2 = true ∧ (∀ h20 : Hp, h20 = sL h0 (hR h0 x0 31) x1.toNatClampNeg (1 : Int64) → (if v4 = (122 : Int32) then ((hS h0 (hR h20 x0 32)).1 = 21 ∧ (¬ (hR h20 x0 32) = 1 ∧ (ainr x1 (hS h0 (hR h20 x0 32)).2 = true ∧ (∀ h24 : Hp, h24 = sL h20 (hR h20 x0 32) x1.toNatClampNeg (21 : Int64) → (if v4 = (123 : Int32) then Ca d m_Mo_sumFields [.ref x0, .int x1] h24 (QV (fun h25 => Wp (d + 1) m_Mo_measure 208 [some (.ref x0), some (.int x1), some (.int v4), some (.int v7), some (.int v10), some (.long v13), none, some (.long v16), none, none] [] h25 (QV K))) else Wp (d + 1) m_Mo_measure 208 [some (.ref x0), some (.int x1), some (.int v4), some (.int v7), some (.int v10), some (.long v13), none, some (.long v16), none, none] [] h24 (QV K)))))) else (if v4 = (114 : Int32) then ((hS h0 (hR h20 x0 32)).1 = 21 ∧ (¬ (hR h20 x0 32) = 1 ∧ (ainr x1 (hS h0 (hR h20 x0 32)).2 = true ∧ (∀ h30 : Hp, h30 = sL h20 (hR h20 x0 32) x1.toNatClampNeg (120 : Int64) → (if v4 = (123 : Int32) then Ca d m_Mo_sumFields [.ref x0, .int x1] h30 (QV (fun h31 => Wp (d + 1) m_Mo_measure 208 [some (.ref x0), some (.int x1), some (.int v4), some (.int v7), some (.int v10), some (.long v13), none, some (.long v16), none, none] [] h31 (QV K))) else Wp (d + 1) m_Mo_measure 208 [some (.ref x0), some (.int x1), some (.int v4), some (.int v7), some (.int v10), some (.long v13), none, some (.long v16), none, none] [] h30 (QV K)))))) else ((hS h0 (hR h20 x0 31)).1 = 21 ∧ (ainr x1 (hS h0 (hR h20 x0 31)).2 = true ∧ ((hS h0 (hR h20 x0 32)).1 = 21 ∧ (¬ (hR h20 x0 32) = 1 ∧ (ainr x1 (hS h0 (hR h20 x0 32)).2 = true ∧ (∀ h38 : Hp, h38 = sL h20 (hR h20 x0 32) x1.toNatClampNeg (hL h20 (hR h20 x0 31) x1.toNatClampNeg) → (if v4 = (123 : Int32) then Ca d m_Mo_sumFields [.ref x0, .int x1] h38 (QV (fun h39 => Wp (d + 1) m_Mo_measure 208 [some (.ref x0), some (.int x1), some (.int v4), some (.int v7), some (.int v10), some (.long v13), none, some (.long v16), none, none] [] h39 (QV K))) else Wp (d + 1) m_Mo_measure 208 [some (.ref x0), some (.int x1), some (.int v4), some (.int v7), some (.int v10), some (.long v13), none, some (.long v16), none, none] [] h38 (QV K)))))))))))))) else (if v4 = (102 : Int32) then ((hS h0 (hR h0 x0 31)).1 = 21 ∧ (¬ (hR h0 x0 31) = 1 ∧ (ainr x1 (hS h0 (hR h0 x0 31)).2 = true ∧ (∀ h44 : Hp, h44 = sL h0 (hR h0 x0 31) x1.toNatClampNeg (4 : Int64) → (if v4 = (122 : Int32) then ((hS h0 (hR h44 x0 32)).1 = 21 ∧ (¬ (hR h44 x0 32) = 1 ∧ (ainr x1 (hS h0 (hR h44 x0 32)).2 = true ∧ (∀ h48 : Hp, h48 = sL h44 (hR h44 x0 32) x1.toNatClampNeg (21 : Int64) → (if v4 = (123 : Int32) then Ca d m_Mo_sumFields [.ref x0, .int x1] h48 (QV (fun h49 => Wp (d + 1) m_Mo_measure 208 [some (.ref x0), some (.int x1), some (.int v4), some (.int v7), some (.int v10), some (.long v13), none, some (.long v16), none, none] [] h49 (QV K))) else Wp (d + 1) m_Mo_measure 208 [some (.ref x0), some (.int x1), some (.int v4), some (.int v7), some (.int v10), some (.long v13), none, some (.long v16), none, none] [] h48 (QV K)))))) else (if v4 = (114 : Int32) then ((hS h0 (hR h44 x0 32)).1 = 21 ∧ (¬ (hR h44 x0 32) = 1 ∧ (ainr x1 (hS h0 (hR h44 x0 32)).2 = true ∧ (∀ h54 : Hp, h54 = sL h44 (hR h44 x0 32) x1.toNatClampNeg (120 : Int64) → (if v4 = (123 : Int32) then Ca d m_Mo_sumFields [.ref x0, .int x1] h54 (QV (fun h55 => Wp (d + 1) m_Mo_measure 208 [some (.ref x0), some (.int x1), some (.int v4), some (.int v7), some (.int v10), some (.long v13), none, some (.long v16), none, none] [] h55 (QV K))) else Wp (d + 1) m_Mo_measure 208 [some (.ref x0), some (.int x1), some (.int v4), some (.int v7), some (.int v10), some (.long v13), none, some (.long v16), none, none] [] h54 (QV K)))))) else ((hS h0 (hR h44 x0 31)).1 = 21 ∧ (ainr x1 (hS h0 (hR h44 x0 31)).2 = true ∧ ((hS h0 (hR h44 x0 32)).1 = 21 ∧ (¬ (hR h44 x0 32) = 1 ∧ (ainr x1 (hS h0 (hR h44 x0 32)).2 = true ∧ (∀ h62 : Hp, h62 = sL h44 (hR h44 x0 32) x1.toNatClampNeg (hL h44 (hR h44 x0 31) x1.toNatClampNeg) → (if v4 = (123 : Int32) then Ca d m_Mo_sumFields [.ref x0, .int x1] h62 (QV (fun h63 => Wp (d + 1) m_Mo_measure 208 [some (.ref x0), some (.int x1), some (.int v4), some (.int v7), some (.int v10), some (.long v13), none, some (.long v16), none, none] [] h63 (QV K))) else Wp (d + 1) m_Mo_measure 208 [some (.ref x0), some (.int x1), some (.int v4), some (.int v7), some (.int v10), some (.long v13), none, some (.long v16), none, none] [] h62 (QV K)))))))))))))) else (if v4 = (100 : Int32) then ((hS h0 (hR h0 x0 31)).1 = 21 ∧ (¬ (hR h0 x0 31) = 1 ∧ (ainr x1 (hS h0 (hR h0 x0 31)).2 = true ∧ (∀ h68 : Hp, h68 = sL h0 (hR h0 x0 31) x1.toNatClampNeg (8 : Int64) → (if v4 = (122 : Int32) then ((hS h0 (hR h68 x0 32)).1 = 21 ∧ (¬ (hR h68 x0 32) = 1 ∧ (ainr x1 (hS h0 (hR h68 x0 32)).2 = true ∧ (∀ h72 : Hp, h72 = sL h68 (hR h68 x0 32) x1.toNatClampNeg (21 : Int64) → (if v4 = (123 : Int32) then Ca d m_Mo_sumFields [.ref x0, .int x1] h72 (QV (fun h73 => Wp (d + 1) m_Mo_measure 208 [some (.ref x0), some (.int x1), some (.int v4), some (.int v7), some (.int v10), some (.long v13), none, some (.long v16), none, none] [] h73 (QV K))) else Wp (d + 1) m_Mo_measure 208 [some (.ref x0), some (.int x1), some (.int v4), some (.int v7), some (.int v10), some (.long v13), none, some (.long v16), none, none] [] h72 (QV K)))))) else (if v4 = (114 : Int32) then ((hS h0 (hR h68 x0 32)).1 = 21 ∧ (¬ (hR h68 x0 32) = 1 ∧ (ainr x1 (hS h0 (hR h68 x0 32)).2 = true ∧ (∀ h78 : Hp, h78 = sL h68 (hR h68 x0 32) x1.toNatClampNeg (120 : Int64) → (if v4 = (123 : Int32) then Ca d m_Mo_sumFields [.ref x0, .int x1] h78 (QV (fun h79 => Wp (d + 1) m_Mo_measure 208 [some (.ref x0), some (.int x1), some (.int v4), some (.int v7), some (.int v10), some (.long v13), none, some (.long v16), none, none] [] h79 (QV K))) else Wp (d + 1) m_Mo_measure 208 [some (.ref x0), some (.int x1), some (.int v4), some (.int v7), some (.int v10), some (.long v13), none, some (.long v16), none, none] [] h78 (QV K)))))) else ((hS h0 (hR h68 x0 31)).1 = 21 ∧ (ainr x1 (hS h0 (hR h68 x0 31)).2 = true ∧ ((hS h0 (hR h68 x0 32)).1 = 21 ∧ (¬ (hR h68 x0 32) = 1 ∧ (ainr x1 (hS h0 (hR h68 x0 32)).2 = true ∧ (∀ h86 : Hp, h86 = sL h68 (hR h68 x0 32) x1.toNatClampNeg (hL h68 (hR h68 x0 31) x1.toNatClampNeg) → (if v4 = (123 : Int32) then Ca d m_Mo_sumFields [.ref x0, .int x1] h86 (QV (fun h87 => Wp (d + 1) m_Mo_measure 208 [some (.ref x0), some (.int x1), some (.int v4), some (.int v7), some (.int v10), some (.long v13), none, some (.long v16), none, none] [] h87 (QV K))) else Wp (d + 1) m_Mo_measure 208 [some (.ref x0), some (.int x1), some (.int v4), some (.int v7), some (.int v10), some (.long v13), none, some (.long v16), none, none] [] h86 (QV K)))))))))))))) else (if v4 = (114 : Int32) then ((hS h0 (hR h0 x0 31)).1 = 21 ∧ (¬ (hR h0 x0 31) = 1 ∧ (ainr x1 (hS h0 (hR h0 x0 31)).2 = true ∧ (∀ h92 : Hp, h92 = sL h0 (hR h0 x0 31) x1.toNatClampNeg (0 : Int64) → (if v4 = (122 : Int32) then ((hS h0 (hR h92 x0 32)).1 = 21 ∧ (¬ (hR h92 x0 32) = 1 ∧ (ainr x1 (hS h0 (hR h92 x0 32)).2 = true ∧ (∀ h96 : Hp, h96 = sL h92 (hR h92 x0 32) x1.toNatClampNeg (21 : Int64) → (if v4 = (123 : Int32) then Ca d m_Mo_sumFields [.ref x0, .int x1] h96 (QV (fun h97 => Wp (d + 1) m_Mo_measure 208 [some (.ref x0), some (.int x1), some (.int v4), some (.int v7), some (.int v10), some (.long v13), none, some (.long v16), none, none] [] h97 (QV K))) else Wp (d + 1) m_Mo_measure 208 [some (.ref x0), some (.int x1), some (.int v4), some (.int v7), some (.int v10), some (.long v13), none, some (.long v16), none, none] [] h96 (QV K)))))) else (if v4 = (114 : Int32) then ((hS h0 (hR h92 x0 32)).1 = 21 ∧ (¬ (hR h92 x0 32) = 1 ∧ (ainr x1 (hS h0 (hR h92 x0 32)).2 = true ∧ (∀ h102 : Hp, h102 = sL h92 (hR h92 x0 32) x1.toNatClampNeg (120 : Int64) → (if v4 = (123 : Int32) then Ca d m_Mo_sumFields [.ref x0, .int x1] h102 (QV (fun h103 => Wp (d + 1) m_Mo_measure 208 [some (.ref x0), some (.int x1), some (.int v4), some (.int v7), some (.int v10), some (.long v13), none, some (.long v16), none, none] [] h103 (QV K))) else Wp (d + 1) m_Mo_measure 208 [some (.ref x0), some (.int x1), some (.int v4), some (.int v7), some (.int v10), some (.long v13), none, some (.long v16), none, none] [] h102 (QV K)))))) else ((hS h0 (hR h92 x0 31)).1 = 21 ∧ (ainr x1 (hS h0 (hR h92 x0 31)).2 = true ∧ ((hS h0 (hR h92 x0 32)).1 = 21 ∧ (¬ (hR h92 x0 32) = 1 ∧ (ainr x1 (hS h0 (hR h92 x0 32)).2 = true ∧ (∀ h110 : Hp, h110 = sL h92 (hR h92 x0 32) x1.toNatClampNeg (hL h92 (hR h92 x0 31) x1.toNatClampNeg) → (if v4 = (123 : Int32) then Ca d m_Mo_sumFields [.ref x0, .int x1] h110 (QV (fun h111 => Wp (d + 1) m_Mo_measure 208 [some (.ref x0), some (.int x1), some (.int v4), some (.int v7), some (.int v10), some (.long v13), none, some (.long v16), none, none] [] h111 (QV K))) else Wp (d + 1) m_Mo_measure 208 [some (.ref x0), some (.int x1), some (.int v4), some (.int v7), some (.int v10), some (.long v13), none, some (.long v16), none, none] [] h110 (QV K)))))))))))))) else (if v4 = (112 : Int32) then ((hS h0 (hR h0 x0 13)).1 = 20 ∧ (ainr x1 (hS h0 (hR h0 x0 13)).2 = true ∧ ((hS h0 (hR h0 x0 31)).1 = 21 ∧ (¬ (hR h0 x0 31) = 1 ∧ (ainr x1 (hS h0 (hR h0 x0 31)).2 = true ∧ (∀ h118 : Hp, h118 = sL h0 (hR h0 x0 31) x1.toNatClampNeg ((((hI h0 (hR h0 x0 13) x1.toNatClampNeg) + (7 : Int32)) / (8 : Int32)).toInt64) → (if v4 = (122 : Int32) then ((hS h0 (hR h118 x0 32)).1 = 21 ∧ (¬ (hR h118 x0 32) = 1 ∧ (ainr x1 (hS h0 (hR h118 x0 32)).2 = true ∧ (∀ h122 : Hp, h122 = sL h118 (hR h118 x0 32) x1.toNatClampNeg (21 : Int64) → (if v4 = (123 : Int32) then Ca d m_Mo_sumFields [.ref x0, .int x1] h122 (QV (fun h123 => Wp (d + 1) m_Mo_measure 208 [some (.ref x0), some (.int x1), some (.int v4), some (.int v7), some (.int v10), some (.long v13), none, some (.long v16), none, none] [] h123 (QV K))) else Wp (d + 1) m_Mo_measure 208 [some (.ref x0), some (.int x1), some (.int v4), some (.int v7), some (.int v10), some (.long v13), none, some (.long v16), none, none] [] h122 (QV K)))))) else (if v4 = (114 : Int32) then ((hS h0 (hR h118 x0 32)).1 = 21 ∧ (¬ (hR h118 x0 32) = 1 ∧ (ainr x1 (hS h0 (hR h118 x0 32)).2 = true ∧ (∀ h128 : Hp, h128 = sL h118 (hR h118 x0 32) x1.toNatClampNeg (120 : Int64) → (if v4 = (123 : Int32) then Ca d m_Mo_sumFields [.ref x0, .int x1] h128 (QV (fun h129 => Wp (d + 1) m_Mo_measure 208 [some (.ref x0), some (.int x1), some (.int v4), some (.int v7), some (.int v10), some (.long v13), none, some (.long v16), none, none] [] h129 (QV K))) else Wp (d + 1) m_Mo_measure 208 [some (.ref x0), some (.int x1), some (.int v4), some (.int v7), some (.int v10), some (.long v13), none, some (.long v16), none, none] [] h128 (QV K)))))) else ((hS h0 (hR h118 x0 31)).1 = 21 ∧ (ainr x1 (hS h0 (hR h118 x0 31)).2 = true ∧ ((hS h0 (hR h118 x0 32)).1 = 21 ∧ (¬ (hR h118 x0 32) = 1 ∧ (ainr x1 (hS h0 (hR h118 x0 32)).2 = true ∧ (∀ h136 : Hp, h136 = sL h118 (hR h118 x0 32) x1.toNatClampNeg (hL h118 (hR h118 x0 31) x1.toNatClampNeg) → (if v4 = (123 : Int32) then Ca d m_Mo_sumFields [.ref x0, .int x1] h136 (QV (fun h137 => Wp (d + 1) m_Mo_measure 208 [some (.ref x0), some (.int x1), some (.int v4), some (.int v7), some (.int v10), some (.long v13), none, some (.long v16), none, none] [] h137 (QV K))) else Wp (d + 1) m_Mo_measure 208 [some (.ref x0), some (.int x1), some (.int v4), some (.int v7), some (.int v10), some (.long v13), none, some (.long v16), none, none] [] h136 (QV K)))))))))))))))) else ((hS h0 (hR h0 x0 13)).1 = 20 ∧ (ainr x1 (hS h0 (hR h0 x0 13)).2 = true ∧ ((hS h0 (hR h0 x0 31)).1 = 21 ∧ (¬ (hR h0 x0 31) = 1 ∧ (ainr x1 (hS h0 (hR h0 x0 31)).2 = true ∧ (∀ h144 : Hp, h144 = sL h0 (hR h0 x0 31) x1.toNatClampNeg ((hI h0 (hR h0 x0 13) x1.toNatClampNeg).toInt64) → (if v4 = (122 : Int32) then ((hS h0 (hR h144 x0 32)).1 = 21 ∧ (¬ (hR h144 x0 32) = 1 ∧ (ainr x1 (hS h0 (hR h144 x0 32)).2 = true ∧ (∀ h148 : Hp, h148 = sL h144 (hR h144 x0 32) x1.toNatClampNeg (21 : Int64) → (if v4 = (123 : Int32) then Ca d m_Mo_sumFields [.ref x0, .int x1] h148 (QV (fun h149 => Wp (d + 1) m_Mo_measure 208 [some (.ref x0), some (.int x1), some (.int v4), some (.int v7), some (.int v10), some (.long v13), none, some (.long v16), none, none] [] h149 (QV K))) else Wp (d + 1) m_Mo_measure 208 [some (.ref x0), some (.int x1), some (.int v4), some (.int v7), some (.int v10), some (.long v13), none, some (.long v16), none, none] [] h148 (QV K)))))) else (if v4 = (114 : Int32) then ((hS h0 (hR h144 x0 32)).1 = 21 ∧ (¬ (hR h144 x0 32) = 1 ∧ (ainr x1 (hS h0 (hR h144 x0 32)).2 = true ∧ (∀ h154 : Hp, h154 = sL h144 (hR h144 x0 32) x1.toNatClampNeg (120 : Int64) → (if v4 = (123 : Int32) then Ca d m_Mo_sumFields [.ref x0, .int x1] h154 (QV (fun h155 => Wp (d + 1) m_Mo_measure 208 [some (.ref x0), some (.int x1), some (.int v4), some (.int v7), some (.int v10), some (.long v13), none, some (.long v16), none, none] [] h155 (QV K))) else Wp (d + 1) m_Mo_measure 208 [some (.ref x0), some (.int x1), some (.int v4), some (.int v7), some (.int v10), some (.long v13), none, some (.long v16), none, none] [] h154 (QV K)))))) else ((hS h0 (hR h144 x0 31)).1 = 21 ∧ (ainr x1 (hS h0 (hR h144 x0 31)).2 = true ∧ ((hS h0 (hR h144 x0 32)).1 = 21 ∧ (¬ (hR h144 x0 32) = 1 ∧ (ainr x1 (hS h0 (hR h144 x0 32)).2 = true ∧ (∀ h162 : Hp, h162 = sL h144 (hR h144 x0 32) x1.toNatClampNeg (hL h144 (hR h144 x0 31) x1.toNatClampNeg) → (if v4 = (123 : Int32) then Ca d m_Mo_sumFields [.ref x0, .int x1] h162 (QV (fun h163 => Wp (d + 1) m_Mo_measure 208 [some (.ref x0), some (.int x1), some (.int v4), some (.int v7), some (.int v10), some (.long v13), none, some (.long v16), none, none] [] h163 (QV K))) else Wp (d + 1) m_Mo_measure 208 [some (.ref x0), some (.int x1), some (.int v4), some (.int v7), some (.int v10), some (.long v13), none, some (.long v16), none, none] [] h162 (QV K)))))))))))))))))))))))))))))))))))))))))) : Ca (d + 1) m_Mo_measure [.ref x0, .int x1] h0 (QV K) := by
  show Wp _ _ 0 [some (.ref x0), some (.int x1), none, none, none, none, none, none, none, none] [] h0 _
  refine V.aload_n d_Mo_measure_0 rfl ?_
  obtain ⟨g1, hq⟩ := hq
  refine V.get2 d_Mo_measure_1 rfl (List.mem_singleton.mpr g1) ?_
  refine V.iload_n d_Mo_measure_4 rfl ?_
  obtain ⟨g2, hq⟩ := hq
  obtain ⟨g3, hq⟩ := hq
  refine V.iaload d_Mo_measure_5 g2 g3 ?_
  replace hq := hq _ rfl
  refine V.istore_n (l' := [_, _, _, _, _, _, _, _, _, _]) d_Mo_measure_6 rfl (ltb rfl) ?_
  refine V.aload_n d_Mo_measure_7 rfl ?_
  refine V.get2 d_Mo_measure_8 rfl (List.mem_singleton.mpr g1) ?_
  refine V.iload_n d_Mo_measure_11 rfl ?_
  obtain ⟨g5, hq⟩ := hq
  obtain ⟨g6, hq⟩ := hq
  refine V.iaload d_Mo_measure_12 g5 g6 ?_
  replace hq := hq _ rfl
  refine V.istore_n (l' := [_, _, _, _, _, _, _, _, _, _]) d_Mo_measure_13 rfl (ltb rfl) ?_
  refine V.aload_n d_Mo_measure_14 rfl ?_
  refine V.get2 d_Mo_measure_15 rfl (List.mem_singleton.mpr g1) ?_
  refine V.iload_n d_Mo_measure_18 rfl ?_
  obtain ⟨g8, hq⟩ := hq
  obtain ⟨g9, hq⟩ := hq
  refine V.iaload d_Mo_measure_19 g8 g9 ?_
  replace hq := hq _ rfl
  refine V.istore (l' := [_, _, _, _, _, _, _, _, _, _]) d_Mo_measure_20 rfl (ltb rfl) ?_
  refine V.iload d_Mo_measure_22 rfl ?_
  refine V.if_lt (t := 39) d_Mo_measure_24 ⟨rfl, rfl⟩ (fun hc => ?_) (fun hc => ?_)
  · replace hq := ifp hc hq
    exact hq
  · replace hq := ifn hc hq
    refine V.aload_n d_Mo_measure_27 rfl ?_
    refine V.get2 d_Mo_measure_28 rfl (List.mem_singleton.mpr g1) ?_
    refine V.iload d_Mo_measure_31 rfl ?_
    obtain ⟨g11, hq⟩ := hq
    obtain ⟨g12, hq⟩ := hq
    refine V.laload d_Mo_measure_33 g11 g12 ?_
    refine V.lconst (x := 0) d_Mo_measure_34 (by decide) ?_
    refine V.lc_ge d_Mo_measure_35 d_Mo_measure_36 ⟨rfl, rfl⟩ (fun hc => ?_) (fun hc => ?_)
    · replace hq := ifp hc hq
      exact hq
    · replace hq := ifn hc hq
      refine V.aload_n d_Mo_measure_43 rfl ?_
      refine V.get2 d_Mo_measure_44 rfl (List.mem_singleton.mpr g1) ?_
      refine V.iload d_Mo_measure_47 rfl ?_
      refine V.laload d_Mo_measure_49 g11 g12 ?_
      replace hq := hq _ rfl
      refine V.lstore (l' := [_, _, _, _, _, _, _, _, _, _]) d_Mo_measure_50 rfl (ltb rfl) ?_
      refine V.iload d_Mo_measure_52 rfl ?_
      refine V.if_lt (t := 69) d_Mo_measure_54 ⟨rfl, rfl⟩ (fun hc => ?_) (fun hc => ?_)
      · replace hq := ifp hc hq
        exact hq
      · replace hq := ifn hc hq
        refine V.aload_n d_Mo_measure_57 rfl ?_
        refine V.get2 d_Mo_measure_58 rfl (List.mem_singleton.mpr g1) ?_
        refine V.iload d_Mo_measure_61 rfl ?_
        obtain ⟨g14, hq⟩ := hq
        obtain ⟨g15, hq⟩ := hq
        refine V.laload d_Mo_measure_63 g14 g15 ?_
        refine V.lconst (x := 0) d_Mo_measure_64 (by decide) ?_
        refine V.lc_ge d_Mo_measure_65 d_Mo_measure_66 ⟨rfl, rfl⟩ (fun hc => ?_) (fun hc => ?_)
        · replace hq := ifp hc hq
          exact hq
        · replace hq := ifn hc hq
          refine V.aload_n d_Mo_measure_73 rfl ?_
          refine V.get2 d_Mo_measure_74 rfl (List.mem_singleton.mpr g1) ?_
          refine V.iload d_Mo_measure_77 rfl ?_
          refine V.laload d_Mo_measure_79 g14 g15 ?_
          replace hq := hq _ rfl
          refine V.lstore (l' := [_, _, _, _, _, _, _, _, _, _]) d_Mo_measure_80 rfl (ltb rfl) ?_
          refine V.aload_n d_Mo_measure_82 rfl ?_
          refine V.get2 d_Mo_measure_83 rfl (List.mem_singleton.mpr g1) ?_
          refine V.iload_n d_Mo_measure_86 rfl ?_
          refine V.iload_n d_Mo_measure_87 rfl ?_
          refine V.bipush (x := 122) d_Mo_measure_88 (by decide) ?_
          refine V.ic_ne (t := 97) d_Mo_measure_90 ⟨rfl, rfl⟩ (fun hc => ?_) (fun hc => ?_)
          · replace hq := ifp hc hq
            refine V.lconst (x := 1) d_Mo_measure_93 (by decide) ?_
            refine V.goto (t := 160) d_Mo_measure_94 ⟨rfl, rfl⟩ ?_
            obtain ⟨g17, hq⟩ := hq
            obtain ⟨g18, hq⟩ := hq
            obtain ⟨g19, hq⟩ := hq
            refine V.lastore d_Mo_measure_160 g17 g18 g19 ?_
            replace hq := hq _ rfl
            refine V.aload_n d_Mo_measure_161 rfl ?_
            refine V.get2 d_Mo_measure_162 rfl (List.mem_singleton.mpr g1) ?_
            refine V.iload_n d_Mo_measure_165 rfl ?_
            refine V.iload_n d_Mo_measure_166 rfl ?_
            refine V.bipush (x := 122) d_Mo_measure_167 (by decide) ?_
            refine V.ic_ne (t := 178) d_Mo_measure_169 ⟨rfl, rfl⟩ (fun hc => ?_) (fun hc => ?_)
            · replace hq := ifp hc hq
              refine V.ldc2_w d_Mo_measure_172 rfl ?_
              refine V.goto (t := 196) d_Mo_measure_175 ⟨rfl, rfl⟩ ?_
              obtain ⟨g21, hq⟩ := hq
              obtain ⟨g22, hq⟩ := hq
              obtain ⟨g23, hq⟩ := hq
              refine V.lastore d_Mo_measure_196 g21 g22 g23 ?_
              replace hq := hq _ rfl
              refine V.iload_n d_Mo_measure_197 rfl ?_
              refine V.bipush (x := 123) d_Mo_measure_198 (by decide) ?_
              refine V.ic_ne (t := 208) d_Mo_measure_200 ⟨rfl, rfl⟩ (fun hc => ?_) (fun hc => ?_)
              · replace hq := ifp hc hq
                refine V.aload_n d_Mo_measure_203 rfl ?_
                refine V.iload_n d_Mo_measure_204 rfl ?_
                refine V.callV d_Mo_measure_205 (cV_call (t := [_]) (rs := []) rfl (Or.inl rfl) rfl (lk1 g1) ⟨leb rfl, leb rfl⟩) hq (fun h25 hq => ?_)
                exact hq
              · replace hq := ifn hc hq
                exact hq
            · replace hq := ifn hc hq
              refine V.iload_n d_Mo_measure_178 rfl ?_
              refine V.bipush (x := 114) d_Mo_measure_179 (by decide) ?_
              refine V.ic_ne (t := 190) d_Mo_measure_181 ⟨rfl, rfl⟩ (fun hc => ?_) (fun hc => ?_)
              · replace hq := ifp hc hq
                refine V.ldc2_w d_Mo_measure_184 rfl ?_
                refine V.goto (t := 196) d_Mo_measure_187 ⟨rfl, rfl⟩ ?_
                obtain ⟨g27, hq⟩ := hq
                obtain ⟨g28, hq⟩ := hq
                obtain ⟨g29, hq⟩ := hq
                refine V.lastore d_Mo_measure_196 g27 g28 g29 ?_
                replace hq := hq _ rfl
                refine V.iload_n d_Mo_measure_197 rfl ?_
                refine V.bipush (x := 123) d_Mo_measure_198 (by decide) ?_
                refine V.ic_ne (t := 208) d_Mo_measure_200 ⟨rfl, rfl⟩ (fun hc => ?_) (fun hc => ?_)
                · replace hq := ifp hc hq
                  refine V.aload_n d_Mo_measure_203 rfl ?_
                  refine V.iload_n d_Mo_measure_204 rfl ?_
                  refine V.callV d_Mo_measure_205 (cV_call (t := [_]) (rs := []) rfl (Or.inl rfl) rfl (lk1 g1) ⟨leb rfl, leb rfl⟩) hq (fun h31 hq => ?_)
                  exact hq
                · replace hq := ifn hc hq
                  exact hq
              · replace hq := ifn hc hq
                refine V.aload_n d_Mo_measure_190 rfl ?_
                refine V.get2 d_Mo_measure_191 rfl (List.mem_singleton.mpr g1) ?_
                refine V.iload_n d_Mo_measure_194 rfl ?_
                obtain ⟨g33, hq⟩ := hq
                obtain ⟨g34, hq⟩ := hq
                refine V.laload d_Mo_measure_195 g33 g34 ?_
                obtain ⟨g35, hq⟩ := hq
                obtain ⟨g36, hq⟩ := hq
                obtain ⟨g37, hq⟩ := hq
                refine V.lastore d_Mo_measure_196 g35 g36 g37 ?_
                replace hq := hq _ rfl
                refine V.iload_n d_Mo_measure_197 rfl ?_
                refine V.bipush (x := 123) d_Mo_measure_198 (by decide) ?_
                refine V.ic_ne (t := 208) d_Mo_measure_200 ⟨rfl, rfl⟩ (fun hc => ?_) (fun hc => ?_)
                · replace hq := ifp hc hq
                  refine V.aload_n d_Mo_measure_203 rfl ?_
                  refine V.iload_n d_Mo_measure_204 rfl ?_
                  refine V.callV d_Mo_measure_205 (cV_call (t := [_]) (rs := []) rfl (Or.inl rfl) rfl (lk1 g1) ⟨leb rfl, leb rfl⟩) hq (fun h39 hq => ?_)
                  exact hq
                · replace hq := ifn hc hq
                  exact hq
          · replace hq := ifn hc hq
            refine V.iload_n d_Mo_measure_97 rfl ?_
            refine V.bipush (x := 102) d_Mo_measure_98 (by decide) ?_
            refine V.ic_ne (t := 109) d_Mo_measure_100 ⟨rfl, rfl⟩ (fun hc => ?_) (fun hc => ?_)
            · replace hq := ifp hc hq
              refine V.ldc2_w d_Mo_measure_103 rfl ?_
              refine V.goto (t := 160) d_Mo_measure_106 ⟨rfl, rfl⟩ ?_
              obtain ⟨g41, hq⟩ := hq
              obtain ⟨g42, hq⟩ := hq
              obtain ⟨g43, hq⟩ := hq
              refine V.lastore d_Mo_measure_160 g41 g42 g43 ?_
              replace hq := hq _ rfl
              refine V.aload_n d_Mo_measure_161 rfl ?_
              refine V.get2 d_Mo_measure_162 rfl (List.mem_singleton.mpr g1) ?_
              refine V.iload_n d_Mo_measure_165 rfl ?_
              refine V.iload_n d_Mo_measure_166 rfl ?_
              refine V.bipush (x := 122) d_Mo_measure_167 (by decide) ?_
              refine V.ic_ne (t := 178) d_Mo_measure_169 ⟨rfl, rfl⟩ (fun hc => ?_) (fun hc => ?_)
              · replace hq := ifp hc hq
                refine V.ldc2_w d_Mo_measure_172 rfl ?_
                refine V.goto (t := 196) d_Mo_measure_175 ⟨rfl, rfl⟩ ?_
                obtain ⟨g45, hq⟩ := hq
                obtain ⟨g46, hq⟩ := hq
                obtain ⟨g47, hq⟩ := hq
                refine V.lastore d_Mo_measure_196 g45 g46 g47 ?_
                replace hq := hq _ rfl
                refine V.iload_n d_Mo_measure_197 rfl ?_
                refine V.bipush (x := 123) d_Mo_measure_198 (by decide) ?_
                refine V.ic_ne (t := 208) d_Mo_measure_200 ⟨rfl, rfl⟩ (fun hc => ?_) (fun hc => ?_)
                · replace hq := ifp hc hq
                  refine V.aload_n d_Mo_measure_203 rfl ?_
                  refine V.iload_n d_Mo_measure_204 rfl ?_
                  refine V.callV d_Mo_measure_205 (cV_call (t := [_]) (rs := []) rfl (Or.inl rfl) rfl (lk1 g1) ⟨leb rfl, leb rfl⟩) hq (fun h49 hq => ?_)
                  exact hq
                · replace hq := ifn hc hq
                  exact hq
              · replace hq := ifn hc hq
                refine V.iload_n d_Mo_measure_178 rfl ?_
                refine V.bipush (x := 114) d_Mo_measure_179 (by decide) ?_
                refine V.ic_ne (t := 190) d_Mo_measure_181 ⟨rfl, rfl⟩ (fun hc => ?_) (fun hc => ?_)
                · replace hq := ifp hc hq
                  refine V.ldc2_w d_Mo_measure_184 rfl ?_
                  refine V.goto (t := 196) d_Mo_measure_187 ⟨rfl, rfl⟩ ?_
                  obtain ⟨g51, hq⟩ := hq
                  obtain ⟨g52, hq⟩ := hq
                  obtain ⟨g53, hq⟩ := hq
                  refine V.lastore d_Mo_measure_196 g51 g52 g53 ?_
                  replace hq := hq _ rfl
                  refine V.iload_n d_Mo_measure_197 rfl ?_
                  refine V.bipush (x := 123) d_Mo_measure_198 (by decide) ?_
                  refine V.ic_ne (t := 208) d_Mo_measure_200 ⟨rfl, rfl⟩ (fun hc => ?_) (fun hc => ?_)
                  · replace hq := ifp hc hq
                    refine V.aload_n d_Mo_measure_203 rfl ?_
                    refine V.iload_n d_Mo_measure_204 rfl ?_
                    refine V.callV d_Mo_measure_205 (cV_call (t := [_]) (rs := []) rfl (Or.inl rfl) rfl (lk1 g1) ⟨leb rfl, leb rfl⟩) hq (fun h55 hq => ?_)
                    exact hq
                  · replace hq := ifn hc hq
                    exact hq
                · replace hq := ifn hc hq
                  refine V.aload_n d_Mo_measure_190 rfl ?_
                  refine V.get2 d_Mo_measure_191 rfl (List.mem_singleton.mpr g1) ?_
                  refine V.iload_n d_Mo_measure_194 rfl ?_
                  obtain ⟨g57, hq⟩ := hq
                  obtain ⟨g58, hq⟩ := hq
                  refine V.laload d_Mo_measure_195 g57 g58 ?_
                  obtain ⟨g59, hq⟩ := hq
                  obtain ⟨g60, hq⟩ := hq
                  obtain ⟨g61, hq⟩ := hq
                  refine V.lastore d_Mo_measure_196 g59 g60 g61 ?_
                  replace hq := hq _ rfl
                  refine V.iload_n d_Mo_measure_197 rfl ?_
                  refine V.bipush (x := 123) d_Mo_measure_198 (by decide) ?_
                  refine V.ic_ne (t := 208) d_Mo_measure_200 ⟨rfl, rfl⟩ (fun hc => ?_) (fun hc => ?_)
                  · replace hq := ifp hc hq
                    refine V.aload_n d_Mo_measure_203 rfl ?_
                    refine V.iload_n d_Mo_measure_204 rfl ?_
                    refine V.callV d_Mo_measure_205 (cV_call (t := [_]) (rs := []) rfl (Or.inl rfl) rfl (lk1 g1) ⟨leb rfl, leb rfl⟩) hq (fun h63 hq => ?_)
                    exact hq
                  · replace hq := ifn hc hq
                    exact hq
            · replace hq := ifn hc hq
              refine V.iload_n d_Mo_measure_109 rfl ?_
              refine V.bipush (x := 100) d_Mo_measure_110 (by decide) ?_
              refine V.ic_ne (t := 121) d_Mo_measure_112 ⟨rfl, rfl⟩ (fun hc => ?_) (fun hc => ?_)
              · replace hq := ifp hc hq
                refine V.ldc2_w d_Mo_measure_115 rfl ?_
                refine V.goto (t := 160) d_Mo_measure_118 ⟨rfl, rfl⟩ ?_
                obtain ⟨g65, hq⟩ := hq
                obtain ⟨g66, hq⟩ := hq
                obtain ⟨g67, hq⟩ := hq
                refine V.lastore d_Mo_measure_160 g65 g66 g67 ?_
                replace hq := hq _ rfl
                refine V.aload_n d_Mo_measure_161 rfl ?_
                refine V.get2 d_Mo_measure_162 rfl (List.mem_singleton.mpr g1) ?_
                refine V.iload_n d_Mo_measure_165 rfl ?_
                refine V.iload_n d_Mo_measure_166 rfl ?_
                refine V.bipush (x := 122) d_Mo_measure_167 (by decide) ?_
                refine V.ic_ne (t := 178) d_Mo_measure_169 ⟨rfl, rfl⟩ (fun hc => ?_) (fun hc => ?_)
                · replace hq := ifp hc hq
                  refine V.ldc2_w d_Mo_measure_172 rfl ?_
                  refine V.goto (t := 196) d_Mo_measure_175 ⟨rfl, rfl⟩ ?_
                  obtain ⟨g69, hq⟩ := hq
                  obtain ⟨g70, hq⟩ := hq
                  obtain ⟨g71, hq⟩ := hq
                  refine V.lastore d_Mo_measure_196 g69 g70 g71 ?_
                  replace hq := hq _ rfl
                  refine V.iload_n d_Mo_measure_197 rfl ?_
                  refine V.bipush (x := 123) d_Mo_measure_198 (by decide) ?_
                  refine V.ic_ne (t := 208) d_Mo_measure_200 ⟨rfl, rfl⟩ (fun hc => ?_) (fun hc => ?_)
                  · replace hq := ifp hc hq
                    refine V.aload_n d_Mo_measure_203 rfl ?_
                    refine V.iload_n d_Mo_measure_204 rfl ?_
                    refine V.callV d_Mo_measure_205 (cV_call (t := [_]) (rs := []) rfl (Or.inl rfl) rfl (lk1 g1) ⟨leb rfl, leb rfl⟩) hq (fun h73 hq => ?_)
                    exact hq
                  · replace hq := ifn hc hq
                    exact hq
                · replace hq := ifn hc hq
                  refine V.iload_n d_Mo_measure_178 rfl ?_
                  refine V.bipush (x := 114) d_Mo_measure_179 (by decide) ?_
                  refine V.ic_ne (t := 190) d_Mo_measure_181 ⟨rfl, rfl⟩ (fun hc => ?_) (fun hc => ?_)
                  · replace hq := ifp hc hq
                    refine V.ldc2_w d_Mo_measure_184 rfl ?_
                    refine V.goto (t := 196) d_Mo_measure_187 ⟨rfl, rfl⟩ ?_
                    obtain ⟨g75, hq⟩ := hq
                    obtain ⟨g76, hq⟩ := hq
                    obtain ⟨g77, hq⟩ := hq
                    refine V.lastore d_Mo_measure_196 g75 g76 g77 ?_
                    replace hq := hq _ rfl
                    refine V.iload_n d_Mo_measure_197 rfl ?_
                    refine V.bipush (x := 123) d_Mo_measure_198 (by decide) ?_
                    refine V.ic_ne (t := 208) d_Mo_measure_200 ⟨rfl, rfl⟩ (fun hc => ?_) (fun hc => ?_)
                    · replace hq := ifp hc hq
                      refine V.aload_n d_Mo_measure_203 rfl ?_
                      refine V.iload_n d_Mo_measure_204 rfl ?_
                      refine V.callV d_Mo_measure_205 (cV_call (t := [_]) (rs := []) rfl (Or.inl rfl) rfl (lk1 g1) ⟨leb rfl, leb rfl⟩) hq (fun h79 hq => ?_)
                      exact hq
                    · replace hq := ifn hc hq
                      exact hq
                  · replace hq := ifn hc hq
                    refine V.aload_n d_Mo_measure_190 rfl ?_
                    refine V.get2 d_Mo_measure_191 rfl (List.mem_singleton.mpr g1) ?_
                    refine V.iload_n d_Mo_measure_194 rfl ?_
                    obtain ⟨g81, hq⟩ := hq
                    obtain ⟨g82, hq⟩ := hq
                    refine V.laload d_Mo_measure_195 g81 g82 ?_
                    obtain ⟨g83, hq⟩ := hq
                    obtain ⟨g84, hq⟩ := hq
                    obtain ⟨g85, hq⟩ := hq
                    refine V.lastore d_Mo_measure_196 g83 g84 g85 ?_
                    replace hq := hq _ rfl
                    refine V.iload_n d_Mo_measure_197 rfl ?_
                    refine V.bipush (x := 123) d_Mo_measure_198 (by decide) ?_
                    refine V.ic_ne (t := 208) d_Mo_measure_200 ⟨rfl, rfl⟩ (fun hc => ?_) (fun hc => ?_)
                    · replace hq := ifp hc hq
                      refine V.aload_n d_Mo_measure_203 rfl ?_
                      refine V.iload_n d_Mo_measure_204 rfl ?_
                      refine V.callV d_Mo_measure_205 (cV_call (t := [_]) (rs := []) rfl (Or.inl rfl) rfl (lk1 g1) ⟨leb rfl, leb rfl⟩) hq (fun h87 hq => ?_)
                      exact hq
                    · replace hq := ifn hc hq
                      exact hq
              · replace hq := ifn hc hq
                refine V.iload_n d_Mo_measure_121 rfl ?_
                refine V.bipush (x := 114) d_Mo_measure_122 (by decide) ?_
                refine V.ic_ne (t := 131) d_Mo_measure_124 ⟨rfl, rfl⟩ (fun hc => ?_) (fun hc => ?_)
                · replace hq := ifp hc hq
                  refine V.lconst (x := 0) d_Mo_measure_127 (by decide) ?_
                  refine V.goto (t := 160) d_Mo_measure_128 ⟨rfl, rfl⟩ ?_
                  obtain ⟨g89, hq⟩ := hq
                  obtain ⟨g90, hq⟩ := hq
                  obtain ⟨g91, hq⟩ := hq
                  refine V.lastore d_Mo_measure_160 g89 g90 g91 ?_
                  replace hq := hq _ rfl
                  refine V.aload_n d_Mo_measure_161 rfl ?_
                  refine V.get2 d_Mo_measure_162 rfl (List.mem_singleton.mpr g1) ?_
                  refine V.iload_n d_Mo_measure_165 rfl ?_
                  refine V.iload_n d_Mo_measure_166 rfl ?_
                  refine V.bipush (x := 122) d_Mo_measure_167 (by decide) ?_
                  refine V.ic_ne (t := 178) d_Mo_measure_169 ⟨rfl, rfl⟩ (fun hc => ?_) (fun hc => ?_)
                  · replace hq := ifp hc hq
                    refine V.ldc2_w d_Mo_measure_172 rfl ?_
                    refine V.goto (t := 196) d_Mo_measure_175 ⟨rfl, rfl⟩ ?_
                    obtain ⟨g93, hq⟩ := hq
                    obtain ⟨g94, hq⟩ := hq
                    obtain ⟨g95, hq⟩ := hq
                    refine V.lastore d_Mo_measure_196 g93 g94 g95 ?_
                    replace hq := hq _ rfl
                    refine V.iload_n d_Mo_measure_197 rfl ?_
                    refine V.bipush (x := 123) d_Mo_measure_198 (by decide) ?_
                    refine V.ic_ne (t := 208) d_Mo_measure_200 ⟨rfl, rfl⟩ (fun hc => ?_) (fun hc => ?_)
                    · replace hq := ifp hc hq
                      refine V.aload_n d_Mo_measure_203 rfl ?_
                      refine V.iload_n d_Mo_measure_204 rfl ?_
                      refine V.callV d_Mo_measure_205 (cV_call (t := [_]) (rs := []) rfl (Or.inl rfl) rfl (lk1 g1) ⟨leb rfl, leb rfl⟩) hq (fun h97 hq => ?_)
                      exact hq
                    · replace hq := ifn hc hq
                      exact hq
                  · replace hq := ifn hc hq
                    refine V.iload_n d_Mo_measure_178 rfl ?_
                    refine V.bipush (x := 114) d_Mo_measure_179 (by decide) ?_
                    refine V.ic_ne (t := 190) d_Mo_measure_181 ⟨rfl, rfl⟩ (fun hc => ?_) (fun hc => ?_)
                    · replace hq := ifp hc hq
                      refine V.ldc2_w d_Mo_measure_184 rfl ?_
                      refine V.goto (t := 196) d_Mo_measure_187 ⟨rfl, rfl⟩ ?_
                      obtain ⟨g99, hq⟩ := hq
                      obtain ⟨g100, hq⟩ := hq
                      obtain ⟨g101, hq⟩ := hq
                      refine V.lastore d_Mo_measure_196 g99 g100 g101 ?_
                      replace hq := hq _ rfl
                      refine V.iload_n d_Mo_measure_197 rfl ?_
                      refine V.bipush (x := 123) d_Mo_measure_198 (by decide) ?_
                      refine V.ic_ne (t := 208) d_Mo_measure_200 ⟨rfl, rfl⟩ (fun hc => ?_) (fun hc => ?_)
                      · replace hq := ifp hc hq
                        refine V.aload_n d_Mo_measure_203 rfl ?_
                        refine V.iload_n d_Mo_measure_204 rfl ?_
                        refine V.callV d_Mo_measure_205 (cV_call (t := [_]) (rs := []) rfl (Or.inl rfl) rfl (lk1 g1) ⟨leb rfl, leb rfl⟩) hq (fun h103 hq => ?_)
                        exact hq
                      · replace hq := ifn hc hq
                        exact hq
                    · replace hq := ifn hc hq
                      refine V.aload_n d_Mo_measure_190 rfl ?_
                      refine V.get2 d_Mo_measure_191 rfl (List.mem_singleton.mpr g1) ?_
                      refine V.iload_n d_Mo_measure_194 rfl ?_
                      obtain ⟨g105, hq⟩ := hq
                      obtain ⟨g106, hq⟩ := hq
                      refine V.laload d_Mo_measure_195 g105 g106 ?_
                      obtain ⟨g107, hq⟩ := hq
                      obtain ⟨g108, hq⟩ := hq
                      obtain ⟨g109, hq⟩ := hq
                      refine V.lastore d_Mo_measure_196 g107 g108 g109 ?_
                      replace hq := hq _ rfl
                      refine V.iload_n d_Mo_measure_197 rfl ?_
                      refine V.bipush (x := 123) d_Mo_measure_198 (by decide) ?_
                      refine V.ic_ne (t := 208) d_Mo_measure_200 ⟨rfl, rfl⟩ (fun hc => ?_) (fun hc => ?_)
                      · replace hq := ifp hc hq
                        refine V.aload_n d_Mo_measure_203 rfl ?_
                        refine V.iload_n d_Mo_measure_204 rfl ?_
                        refine V.callV d_Mo_measure_205 (cV_call (t := [_]) (rs := []) rfl (Or.inl rfl) rfl (lk1 g1) ⟨leb rfl, leb rfl⟩) hq (fun h111 hq => ?_)
                        exact hq
                      · replace hq := ifn hc hq
                        exact hq
                · replace hq := ifn hc hq
                  refine V.iload_n d_Mo_measure_131 rfl ?_
                  refine V.bipush (x := 112) d_Mo_measure_132 (by decide) ?_
                  refine V.ic_ne (t := 153) d_Mo_measure_134 ⟨rfl, rfl⟩ (fun hc => ?_) (fun hc => ?_)
                  · replace hq := ifp hc hq
                    refine V.aload_n d_Mo_measure_137 rfl ?_
                    refine V.get2 d_Mo_measure_138 rfl (List.mem_singleton.mpr g1) ?_
                    refine V.iload_n d_Mo_measure_141 rfl ?_
                    obtain ⟨g113, hq⟩ := hq
                    obtain ⟨g114, hq⟩ := hq
                    refine V.iaload d_Mo_measure_142 g113 g114 ?_
                    refine V.bipush (x := 7) d_Mo_measure_143 (by decide) ?_
                    refine V.iadd d_Mo_measure_145 ?_
                    refine V.bipush (x := 8) d_Mo_measure_146 (by decide) ?_
                    refine V.idiv d_Mo_measure_148 (by decide) ?_
                    refine V.i2l d_Mo_measure_149 ?_
                    refine V.goto (t := 160) d_Mo_measure_150 ⟨rfl, rfl⟩ ?_
                    obtain ⟨g115, hq⟩ := hq
                    obtain ⟨g116, hq⟩ := hq
                    obtain ⟨g117, hq⟩ := hq
                    refine V.lastore d_Mo_measure_160 g115 g116 g117 ?_
                    replace hq := hq _ rfl
                    refine V.aload_n d_Mo_measure_161 rfl ?_
                    refine V.get2 d_Mo_measure_162 rfl (List.mem_singleton.mpr g1) ?_
                    refine V.iload_n d_Mo_measure_165 rfl ?_
                    refine V.iload_n d_Mo_measure_166 rfl ?_
                    refine V.bipush (x := 122) d_Mo_measure_167 (by decide) ?_
                    refine V.ic_ne (t := 178) d_Mo_measure_169 ⟨rfl, rfl⟩ (fun hc => ?_) (fun hc => ?_)
                    · replace hq := ifp hc hq
                      refine V.ldc2_w d_Mo_measure_172 rfl ?_
                      refine V.goto (t := 196) d_Mo_measure_175 ⟨rfl, rfl⟩ ?_
                      obtain ⟨g119, hq⟩ := hq
                      obtain ⟨g120, hq⟩ := hq
                      obtain ⟨g121, hq⟩ := hq
                      refine V.lastore d_Mo_measure_196 g119 g120 g121 ?_
                      replace hq := hq _ rfl
                      refine V.iload_n d_Mo_measure_197 rfl ?_
                      refine V.bipush (x := 123) d_Mo_measure_198 (by decide) ?_
                      refine V.ic_ne (t := 208) d_Mo_measure_200 ⟨rfl, rfl⟩ (fun hc => ?_) (fun hc => ?_)
                      · replace hq := ifp hc hq
                        refine V.aload_n d_Mo_measure_203 rfl ?_
                        refine V.iload_n d_Mo_measure_204 rfl ?_
                        refine V.callV d_Mo_measure_205 (cV_call (t := [_]) (rs := []) rfl (Or.inl rfl) rfl (lk1 g1) ⟨leb rfl, leb rfl⟩) hq (fun h123 hq => ?_)
                        exact hq
                      · replace hq := ifn hc hq
                        exact hq
                    · replace hq := ifn hc hq
                      refine V.iload_n d_Mo_measure_178 rfl ?_
                      refine V.bipush (x := 114) d_Mo_measure_179 (by decide) ?_
                      refine V.ic_ne (t := 190) d_Mo_measure_181 ⟨rfl, rfl⟩ (fun hc => ?_) (fun hc => ?_)
                      · replace hq := ifp hc hq
                        refine V.ldc2_w d_Mo_measure_184 rfl ?_
                        refine V.goto (t := 196) d_Mo_measure_187 ⟨rfl, rfl⟩ ?_
                        obtain ⟨g125, hq⟩ := hq
                        obtain ⟨g126, hq⟩ := hq
                        obtain ⟨g127, hq⟩ := hq
                        refine V.lastore d_Mo_measure_196 g125 g126 g127 ?_
                        replace hq := hq _ rfl
                        refine V.iload_n d_Mo_measure_197 rfl ?_
                        refine V.bipush (x := 123) d_Mo_measure_198 (by decide) ?_
                        refine V.ic_ne (t := 208) d_Mo_measure_200 ⟨rfl, rfl⟩ (fun hc => ?_) (fun hc => ?_)
                        · replace hq := ifp hc hq
                          refine V.aload_n d_Mo_measure_203 rfl ?_
                          refine V.iload_n d_Mo_measure_204 rfl ?_
                          refine V.callV d_Mo_measure_205 (cV_call (t := [_]) (rs := []) rfl (Or.inl rfl) rfl (lk1 g1) ⟨leb rfl, leb rfl⟩) hq (fun h129 hq => ?_)
                          exact hq
                        · replace hq := ifn hc hq
                          exact hq
                      · replace hq := ifn hc hq
                        refine V.aload_n d_Mo_measure_190 rfl ?_
                        refine V.get2 d_Mo_measure_191 rfl (List.mem_singleton.mpr g1) ?_
                        refine V.iload_n d_Mo_measure_194 rfl ?_
                        obtain ⟨g131, hq⟩ := hq
                        obtain ⟨g132, hq⟩ := hq
                        refine V.laload d_Mo_measure_195 g131 g132 ?_
                        obtain ⟨g133, hq⟩ := hq
                        obtain ⟨g134, hq⟩ := hq
                        obtain ⟨g135, hq⟩ := hq
                        refine V.lastore d_Mo_measure_196 g133 g134 g135 ?_
                        replace hq := hq _ rfl
                        refine V.iload_n d_Mo_measure_197 rfl ?_
                        refine V.bipush (x := 123) d_Mo_measure_198 (by decide) ?_
                        refine V.ic_ne (t := 208) d_Mo_measure_200 ⟨rfl, rfl⟩ (fun hc => ?_) (fun hc => ?_)
                        · replace hq := ifp hc hq
                          refine V.aload_n d_Mo_measure_203 rfl ?_
                          refine V.iload_n d_Mo_measure_204 rfl ?_
                          refine V.callV d_Mo_measure_205 (cV_call (t := [_]) (rs := []) rfl (Or.inl rfl) rfl (lk1 g1) ⟨leb rfl, leb rfl⟩) hq (fun h137 hq => ?_)
                          exact hq
                        · replace hq := ifn hc hq
                          exact hq
                  · replace hq := ifn hc hq
                    refine V.aload_n d_Mo_measure_153 rfl ?_
                    refine V.get2 d_Mo_measure_154 rfl (List.mem_singleton.mpr g1) ?_
                    refine V.iload_n d_Mo_measure_157 rfl ?_
                    obtain ⟨g139, hq⟩ := hq
                    obtain ⟨g140, hq⟩ := hq
                    refine V.iaload d_Mo_measure_158 g139 g140 ?_
                    refine V.i2l d_Mo_measure_159 ?_
                    obtain ⟨g141, hq⟩ := hq
                    obtain ⟨g142, hq⟩ := hq
                    obtain ⟨g143, hq⟩ := hq
                    refine V.lastore d_Mo_measure_160 g141 g142 g143 ?_
                    replace hq := hq _ rfl
                    refine V.aload_n d_Mo_measure_161 rfl ?_
                    refine V.get2 d_Mo_measure_162 rfl (List.mem_singleton.mpr g1) ?_
                    refine V.iload_n d_Mo_measure_165 rfl ?_
                    refine V.iload_n d_Mo_measure_166 rfl ?_
                    refine V.bipush (x := 122) d_Mo_measure_167 (by decide) ?_
                    refine V.ic_ne (t := 178) d_Mo_measure_169 ⟨rfl, rfl⟩ (fun hc => ?_) (fun hc => ?_)
                    · replace hq := ifp hc hq
                      refine V.ldc2_w d_Mo_measure_172 rfl ?_
                      refine V.goto (t := 196) d_Mo_measure_175 ⟨rfl, rfl⟩ ?_
                      obtain ⟨g145, hq⟩ := hq
                      obtain ⟨g146, hq⟩ := hq
                      obtain ⟨g147, hq⟩ := hq
                      refine V.lastore d_Mo_measure_196 g145 g146 g147 ?_
                      replace hq := hq _ rfl
                      refine V.iload_n d_Mo_measure_197 rfl ?_
                      refine V.bipush (x := 123) d_Mo_measure_198 (by decide) ?_
                      refine V.ic_ne (t := 208) d_Mo_measure_200 ⟨rfl, rfl⟩ (fun hc => ?_) (fun hc => ?_)
                      · replace hq := ifp hc hq
                        refine V.aload_n d_Mo_measure_203 rfl ?_
                        refine V.iload_n d_Mo_measure_204 rfl ?_
                        refine V.callV d_Mo_measure_205 (cV_call (t := [_]) (rs := []) rfl (Or.inl rfl) rfl (lk1 g1) ⟨leb rfl, leb rfl⟩) hq (fun h149 hq => ?_)
                        exact hq
                      · replace hq := ifn hc hq
                        exact hq
                    · replace hq := ifn hc hq
                      refine V.iload_n d_Mo_measure_178 rfl ?_
                      refine V.bipush (x := 114) d_Mo_measure_179 (by decide) ?_
                      refine V.ic_ne (t := 190) d_Mo_measure_181 ⟨rfl, rfl⟩ (fun hc => ?_) (fun hc => ?_)
                      · replace hq := ifp hc hq
                        refine V.ldc2_w d_Mo_measure_184 rfl ?_
                        refine V.goto (t := 196) d_Mo_measure_187 ⟨rfl, rfl⟩ ?_
                        obtain ⟨g151, hq⟩ := hq
                        obtain ⟨g152, hq⟩ := hq
                        obtain ⟨g153, hq⟩ := hq
                        refine V.lastore d_Mo_measure_196 g151 g152 g153 ?_
                        replace hq := hq _ rfl
                        refine V.iload_n d_Mo_measure_197 rfl ?_
                        refine V.bipush (x := 123) d_Mo_measure_198 (by decide) ?_
                        refine V.ic_ne (t := 208) d_Mo_measure_200 ⟨rfl, rfl⟩ (fun hc => ?_) (fun hc => ?_)
                        · replace hq := ifp hc hq
                          refine V.aload_n d_Mo_measure_203 rfl ?_
                          refine V.iload_n d_Mo_measure_204 rfl ?_
                          refine V.callV d_Mo_measure_205 (cV_call (t := [_]) (rs := []) rfl (Or.inl rfl) rfl (lk1 g1) ⟨leb rfl, leb rfl⟩) hq (fun h155 hq => ?_)
                          exact hq
                        · replace hq := ifn hc hq
                          exact hq
                      · replace hq := ifn hc hq
                        refine V.aload_n d_Mo_measure_190 rfl ?_
                        refine V.get2 d_Mo_measure_191 rfl (List.mem_singleton.mpr g1) ?_
                        refine V.iload_n d_Mo_measure_194 rfl ?_
                        obtain ⟨g157, hq⟩ := hq
                        obtain ⟨g158, hq⟩ := hq
                        refine V.laload d_Mo_measure_195 g157 g158 ?_
                        obtain ⟨g159, hq⟩ := hq
                        obtain ⟨g160, hq⟩ := hq
                        obtain ⟨g161, hq⟩ := hq
                        refine V.lastore d_Mo_measure_196 g159 g160 g161 ?_
                        replace hq := hq _ rfl
                        refine V.iload_n d_Mo_measure_197 rfl ?_
                        refine V.bipush (x := 123) d_Mo_measure_198 (by decide) ?_
                        refine V.ic_ne (t := 208) d_Mo_measure_200 ⟨rfl, rfl⟩ (fun hc => ?_) (fun hc => ?_)
                        · replace hq := ifp hc hq
                          refine V.aload_n d_Mo_measure_203 rfl ?_
                          refine V.iload_n d_Mo_measure_204 rfl ?_
                          refine V.callV d_Mo_measure_205 (cV_call (t := [_]) (rs := []) rfl (Or.inl rfl) rfl (lk1 g1) ⟨leb rfl, leb rfl⟩) hq (fun h163 hq => ?_)
                          exact hq
                        · replace hq := ifn hc hq
                          exact hq
set_option maxRecDepth 100000 in
theorem w_Mo_measure_39 {d : Nat} {K : Hp → Prop} {x0 : Nat} {x1 : Int32} {x2 : Int32} {x3 : Int32} {x4 : Int32} {y5 : Option Value} {y6 : Option Value} {y7 : Option Value} {y8 : Option Value} {y9 : Option Value} {h0 : Hp} (hq :
  (if x4 < 0 then Wp (d + 1) m_Mo_measure 69 [some (.ref x0), some (.int x1), some (.int x2), some (.int x3), some (.int x4), some (.long (0 : Int64)), none, y7, y8, y9] [] h0 (QV K) else ((hS h0 x0).1 = 8 ∧ ((hS h0 (hR h0 x0 30)).1 = 21 ∧ (ainr x4 (hS h0 (hR h0 x0 30)).2 = true ∧ (if (hL h0 (hR h0 x0 30) x4.toNatClampNeg) < (0 : Int64) then Wp (d + 1) m_Mo_measure 69 [some (.ref x0), some (.int x1), some (.int x2), some (.int x3), some (.int x4), some (.long (0 : Int64)), none, y7, y8, y9] [] h0 (QV K) else (∀ v168 : Int64, v168 = (hL h0 (hR h0 x0 30) x4.toNatClampNeg) → (if x2 = (122 : Int32) then ((hS h0 (hR h0 x0 31)).1 = 21 ∧ (¬ (hR h0 x0 31) = 1 ∧ (ainr x1 (hS h0 (hR h0 x0 31)).2 = true ∧ (∀ h172 : Hp, h172 = sL h0 (hR h0 x0 31) x1.toNatClampNeg (1 : Int64) → (if x2 = (122 : Int32) then ((hS h0 (hR h172 x0 32)).1 = 21 ∧ (¬ (hR h172 x0 32) = 1 ∧ (ainr x1 (hS h0 (hR h172 x0 32)).2 = true ∧ (∀ h176 : Hp, h176 = sL h172 (hR h172 x0 32) x1.toNatClampNeg (21 : Int64) → (if x2 = (123 : Int32) then Ca d m_Mo_sumFields [.ref x0, .int x1] h176 (QV (fun h177 => Wp (d + 1) m_Mo_measure 208 [some (.ref x0), some (.int x1), some (.int x2), some (.int x3), some (.int x4), some (.long (0 : Int64)), none, some (.long v168), none, y9] [] h177 (QV K))) else Wp (d + 1) m_Mo_measure 208 [some (.ref x0), some (.int x1), some (.int x2), some (.int x3), some (.int x4), some (.long (0 : Int64)), none, some (.long v168), none, y9] [] h176 (QV K)))))) else (if x2 = (114 : Int32) then ((hS h0 (hR h172 x0 32)).1 = 21 ∧ (¬ (hR h172 x0 32) = 1 ∧ (ainr x1 (hS h0 (hR h172 x0 32)).2 = true ∧ (∀ h182 : Hp, h182 = sL h172 (hR h172 x0 32) x1.toNatClampNeg (120 : Int64) → (if x2 = (123 : Int32) then Ca d m_Mo_sumFields [.ref x0, .int x1] h182 (QV (fun h183 => Wp (d + 1) m_Mo_measure 208 [some (.ref x0), some (.int x1), some (.int x2), some (.int x3), some (.int x4), some (.long (0 : Int64)), none, some (.long v168), none, y9] [] h183 (QV K))) else Wp (d + 1) m_Mo_measure 208 [some (.ref x0), some (.int x1), some (.int x2), some (.int x3), some (.int x4), some (.long (0 : Int64)), none, some (.long v168), none, y9] [] h182 (QV K)))))) else ((hS h0 (hR h172 x0 31)).1 = 21 ∧ (ainr x1 (hS h0 (hR h172 x0 31)).2 = true ∧ ((hS h0 (hR h172 x0 32)).1 = 21 ∧ (¬ (hR h172 x0 32) = 1 ∧ (ainr x1 (hS h0 (hR h172 x0 32)).2 = true ∧ (∀ h190 : Hp, h190 = sL h172 (hR h172 x0 32) x1.toNatClampNeg (hL h172 (hR h172 x0 31) x1.toNatClampNeg) → (if x2 = (123 : Int32) then Ca d m_Mo_sumFields [.ref x0, .int x1] h190 (QV (fun h191 => Wp (d + 1) m_Mo_measure 208 [some (.ref x0), some (.int x1), some (.int x2), some (.int x3), some (.int x4), some (.long (0 : Int64)), none, some (.long v168), none, y9] [] h191 (QV K))) else Wp (d + 1) m_Mo_measure 208 [some (.ref x0), some (.int x1), some (.int x2), some (.int x3), some (.int x4), some (.long (0 : Int64)), none, some (.long v168), none, y9] [] h190 (QV K)))))))))))))) else (if x2 = (102 : Int32) then ((hS h0 (hR h0 x0 31)).1 = 21 ∧ (¬ (hR h0 x0 31) = 1 ∧ (ainr x1 (hS h0 (hR h0 x0 31)).2 = true ∧ (∀ h196 : Hp, h196 = sL h0 (hR h0 x0 31) x1.toNatClampNeg (4 : Int64) → (if x2 = (122 : Int32) then ((hS h0 (hR h196 x0 32)).1 = 21 ∧ (¬ (hR h196 x0 32) = 1 ∧ (ainr x1 (hS h0 (hR h196 x0 32)).2 = true ∧ (∀ h200 : Hp, h200 = sL h196 (hR h196 x0 32) x1.toNatClampNeg (21 : Int64) → (if x2 = (123 : Int32) then Ca d m_Mo_sumFields [.ref x0, .int x1] h200 (QV (fun h201 => Wp (d + 1) m_Mo_measure 208 [some (.ref x0), some (.int x1), some (.int x2), some (.int x3), some (.int x4), some (.long (0 : Int64)), none, some (.long v168), none, y9] [] h201 (QV K))) else Wp (d + 1) m_Mo_measure 208 [some (.ref x0), some (.int x1), some (.int x2), some (.int x3), some (.int x4), some (.long (0 : Int64)), none, some (.long v168), none, y9] [] h200 (QV K)))))) else (if x2 = (114 : Int32) then ((hS h0 (hR h196 x0 32)).1 = 21 ∧ (¬ (hR h196 x0 32) = 1 ∧ (ainr x1 (hS h0 (hR h196 x0 32)).2 = true ∧ (∀ h206 : Hp, h206 = sL h196 (hR h196 x0 32) x1.toNatClampNeg (120 : Int64) → (if x2 = (123 : Int32) then Ca d m_Mo_sumFields [.ref x0, .int x1] h206 (QV (fun h207 => Wp (d + 1) m_Mo_measure 208 [some (.ref x0), some (.int x1), some (.int x2), some (.int x3), some (.int x4), some (.long (0 : Int64)), none, some (.long v168), none, y9] [] h207 (QV K))) else Wp (d + 1) m_Mo_measure 208 [some (.ref x0), some (.int x1), some (.int x2), some (.int x3), some (.int x4), some (.long (0 : Int64)), none, some (.long v168), none, y9] [] h206 (QV K)))))) else ((hS h0 (hR h196 x0 31)).1 = 21 ∧ (ainr x1 (hS h0 (hR h196 x0 31)).2 = true ∧ ((hS h0 (hR h196 x0 32)).1 = 21 ∧ (¬ (hR h196 x0 32) = 1 ∧ (ainr x1 (hS h0 (hR h196 x0 32)).2 = true ∧ (∀ h214 : Hp, h214 = sL h196 (hR h196 x0 32) x1.toNatClampNeg (hL h196 (hR h196 x0 31) x1.toNatClampNeg) → (if x2 = (123 : Int32) then Ca d m_Mo_sumFields [.ref x0, .int x1] h214 (QV (fun h215 => Wp (d + 1) m_Mo_measure 208 [some (.ref x0), some (.int x1), some (.int x2), some (.int x3), some (.int x4), some (.long (0 : Int64)), none, some (.long v168), none, y9] [] h215 (QV K))) else Wp (d + 1) m_Mo_measure 208 [some (.ref x0), some (.int x1), some (.int x2), some (.int x3), some (.int x4), some (.long (0 : Int64)), none, some (.long v168), none, y9] [] h214 (QV K)))))))))))))) else (if x2 = (100 : Int32) then ((hS h0 (hR h0 x0 31)).1 = 21 ∧ (¬ (hR h0 x0 31) = 1 ∧ (ainr x1 (hS h0 (hR h0 x0 31)).2 = true ∧ (∀ h220 : Hp, h220 = sL h0 (hR h0 x0 31) x1.toNatClampNeg (8 : Int64) → (if x2 = (122 : Int32) then ((hS h0 (hR h220 x0 32)).1 = 21 ∧ (¬ (hR h220 x0 32) = 1 ∧ (ainr x1 (hS h0 (hR h220 x0 32)).2 = true ∧ (∀ h224 : Hp, h224 = sL h220 (hR h220 x0 32) x1.toNatClampNeg (21 : Int64) → (if x2 = (123 : Int32) then Ca d m_Mo_sumFields [.ref x0, .int x1] h224 (QV (fun h225 => Wp (d + 1) m_Mo_measure 208 [some (.ref x0), some (.int x1), some (.int x2), some (.int x3), some (.int x4), some (.long (0 : Int64)), none, some (.long v168), none, y9] [] h225 (QV K))) else Wp (d + 1) m_Mo_measure 208 [some (.ref x0), some (.int x1), some (.int x2), some (.int x3), some (.int x4), some (.long (0 : Int64)), none, some (.long v168), none, y9] [] h224 (QV K)))))) else (if x2 = (114 : Int32) then ((hS h0 (hR h220 x0 32)).1 = 21 ∧ (¬ (hR h220 x0 32) = 1 ∧ (ainr x1 (hS h0 (hR h220 x0 32)).2 = true ∧ (∀ h230 : Hp, h230 = sL h220 (hR h220 x0 32) x1.toNatClampNeg (120 : Int64) → (if x2 = (123 : Int32) then Ca d m_Mo_sumFields [.ref x0, .int x1] h230 (QV (fun h231 => Wp (d + 1) m_Mo_measure 208 [some (.ref x0), some (.int x1), some (.int x2), some (.int x3), some (.int x4), some (.long (0 : Int64)), none, some (.long v168), none, y9] [] h231 (QV K))) else Wp (d + 1) m_Mo_measure 208 [some (.ref x0), some (.int x1), some (.int x2), some (.int x3), some (.int x4), some (.long (0 : Int64)), none, some (.long v168), none, y9] [] h230 (QV K)))))) else ((hS h0 (hR h220 x0 31)).1 = 21 ∧ (ainr x1 (hS h0 (hR h220 x0 31)).2 = true ∧ ((hS h0 (hR h220 x0 32)).1 = 21 ∧ (¬ (hR h220 x0 32) = 1 ∧ (ainr x1 (hS h0 (hR h220 x0 32)).2 = true ∧ (∀ h238 : Hp, h238 = sL h220 (hR h220 x0 32) x1.toNatClampNeg (hL h220 (hR h220 x0 31) x1.toNatClampNeg) → (if x2 = (123 : Int32) then Ca d m_Mo_sumFields [.ref x0, .int x1] h238 (QV (fun h239 => Wp (d + 1) m_Mo_measure 208 [some (.ref x0), some (.int x1), some (.int x2), some (.int x3), some (.int x4), some (.long (0 : Int64)), none, some (.long v168), none, y9] [] h239 (QV K))) else Wp (d + 1) m_Mo_measure 208 [some (.ref x0), some (.int x1), some (.int x2), some (.int x3), some (.int x4), some (.long (0 : Int64)), none, some (.long v168), none, y9] [] h238 (QV K)))))))))))))) else (if x2 = (114 : Int32) then ((hS h0 (hR h0 x0 31)).1 = 21 ∧ (¬ (hR h0 x0 31) = 1 ∧ (ainr x1 (hS h0 (hR h0 x0 31)).2 = true ∧ (∀ h244 : Hp, h244 = sL h0 (hR h0 x0 31) x1.toNatClampNeg (0 : Int64) → (if x2 = (122 : Int32) then ((hS h0 (hR h244 x0 32)).1 = 21 ∧ (¬ (hR h244 x0 32) = 1 ∧ (ainr x1 (hS h0 (hR h244 x0 32)).2 = true ∧ (∀ h248 : Hp, h248 = sL h244 (hR h244 x0 32) x1.toNatClampNeg (21 : Int64) → (if x2 = (123 : Int32) then Ca d m_Mo_sumFields [.ref x0, .int x1] h248 (QV (fun h249 => Wp (d + 1) m_Mo_measure 208 [some (.ref x0), some (.int x1), some (.int x2), some (.int x3), some (.int x4), some (.long (0 : Int64)), none, some (.long v168), none, y9] [] h249 (QV K))) else Wp (d + 1) m_Mo_measure 208 [some (.ref x0), some (.int x1), some (.int x2), some (.int x3), some (.int x4), some (.long (0 : Int64)), none, some (.long v168), none, y9] [] h248 (QV K)))))) else (if x2 = (114 : Int32) then ((hS h0 (hR h244 x0 32)).1 = 21 ∧ (¬ (hR h244 x0 32) = 1 ∧ (ainr x1 (hS h0 (hR h244 x0 32)).2 = true ∧ (∀ h254 : Hp, h254 = sL h244 (hR h244 x0 32) x1.toNatClampNeg (120 : Int64) → (if x2 = (123 : Int32) then Ca d m_Mo_sumFields [.ref x0, .int x1] h254 (QV (fun h255 => Wp (d + 1) m_Mo_measure 208 [some (.ref x0), some (.int x1), some (.int x2), some (.int x3), some (.int x4), some (.long (0 : Int64)), none, some (.long v168), none, y9] [] h255 (QV K))) else Wp (d + 1) m_Mo_measure 208 [some (.ref x0), some (.int x1), some (.int x2), some (.int x3), some (.int x4), some (.long (0 : Int64)), none, some (.long v168), none, y9] [] h254 (QV K)))))) else ((hS h0 (hR h244 x0 31)).1 = 21 ∧ (ainr x1 (hS h0 (hR h244 x0 31)).2 = true ∧ ((hS h0 (hR h244 x0 32)).1 = 21 ∧ (¬ (hR h244 x0 32) = 1 ∧ (ainr x1 (hS h0 (hR h244 x0 32)).2 = true ∧ (∀ h262 : Hp, h262 = sL h244 (hR h244 x0 32) x1.toNatClampNeg (hL h244 (hR h244 x0 31) x1.toNatClampNeg) → (if x2 = (123 : Int32) then Ca d m_Mo_sumFields [.ref x0, .int x1] h262 (QV (fun h263 => Wp (d + 1) m_Mo_measure 208 [some (.ref x0), some (.int x1), some (.int x2), some (.int x3), some (.int x4), some (.long (0 : Int64)), none, some (.long v168), none, y9] [] h263 (QV K))) else Wp (d + 1) m_Mo_measure 208 [some (.ref x0), some (.int x1), some (.int x2), some (.int x3), some (.int x4), some (.long (0 : Int64)), none, some (.long v168), none, y9] [] h262 (QV K)))))))))))))) else (if x2 = (112 : Int32) then ((hS h0 (hR h0 x0 13)).1 = 20 ∧ (ainr x1 (hS h0 (hR h0 x0 13)).2 = true ∧ ((hS h0 (hR h0 x0 31)).1 = 21 ∧ (¬ (hR h0 x0 31) = 1 ∧ (ainr x1 (hS h0 (hR h0 x0 31)).2 = true ∧ (∀ h270 : Hp, h270 = sL h0 (hR h0 x0 31) x1.toNatClampNeg ((((hI h0 (hR h0 x0 13) x1.toNatClampNeg) + (7 : Int32)) / (8 : Int32)).toInt64) → (if x2 = (122 : Int32) then ((hS h0 (hR h270 x0 32)).1 = 21 ∧ (¬ (hR h270 x0 32) = 1 ∧ (ainr x1 (hS h0 (hR h270 x0 32)).2 = true ∧ (∀ h274 : Hp, h274 = sL h270 (hR h270 x0 32) x1.toNatClampNeg (21 : Int64) → (if x2 = (123 : Int32) then Ca d m_Mo_sumFields [.ref x0, .int x1] h274 (QV (fun h275 => Wp (d + 1) m_Mo_measure 208 [some (.ref x0), some (.int x1), some (.int x2), some (.int x3), some (.int x4), some (.long (0 : Int64)), none, some (.long v168), none, y9] [] h275 (QV K))) else Wp (d + 1) m_Mo_measure 208 [some (.ref x0), some (.int x1), some (.int x2), some (.int x3), some (.int x4), some (.long (0 : Int64)), none, some (.long v168), none, y9] [] h274 (QV K)))))) else (if x2 = (114 : Int32) then ((hS h0 (hR h270 x0 32)).1 = 21 ∧ (¬ (hR h270 x0 32) = 1 ∧ (ainr x1 (hS h0 (hR h270 x0 32)).2 = true ∧ (∀ h280 : Hp, h280 = sL h270 (hR h270 x0 32) x1.toNatClampNeg (120 : Int64) → (if x2 = (123 : Int32) then Ca d m_Mo_sumFields [.ref x0, .int x1] h280 (QV (fun h281 => Wp (d + 1) m_Mo_measure 208 [some (.ref x0), some (.int x1), some (.int x2), some (.int x3), some (.int x4), some (.long (0 : Int64)), none, some (.long v168), none, y9] [] h281 (QV K))) else Wp (d + 1) m_Mo_measure 208 [some (.ref x0), some (.int x1), some (.int x2), some (.int x3), some (.int x4), some (.long (0 : Int64)), none, some (.long v168), none, y9] [] h280 (QV K)))))) else ((hS h0 (hR h270 x0 31)).1 = 21 ∧ (ainr x1 (hS h0 (hR h270 x0 31)).2 = true ∧ ((hS h0 (hR h270 x0 32)).1 = 21 ∧ (¬ (hR h270 x0 32) = 1 ∧ (ainr x1 (hS h0 (hR h270 x0 32)).2 = true ∧ (∀ h288 : Hp, h288 = sL h270 (hR h270 x0 32) x1.toNatClampNeg (hL h270 (hR h270 x0 31) x1.toNatClampNeg) → (if x2 = (123 : Int32) then Ca d m_Mo_sumFields [.ref x0, .int x1] h288 (QV (fun h289 => Wp (d + 1) m_Mo_measure 208 [some (.ref x0), some (.int x1), some (.int x2), some (.int x3), some (.int x4), some (.long (0 : Int64)), none, some (.long v168), none, y9] [] h289 (QV K))) else Wp (d + 1) m_Mo_measure 208 [some (.ref x0), some (.int x1), some (.int x2), some (.int x3), some (.int x4), some (.long (0 : Int64)), none, some (.long v168), none, y9] [] h288 (QV K)))))))))))))))) else ((hS h0 (hR h0 x0 13)).1 = 20 ∧ (ainr x1 (hS h0 (hR h0 x0 13)).2 = true ∧ ((hS h0 (hR h0 x0 31)).1 = 21 ∧ (¬ (hR h0 x0 31) = 1 ∧ (ainr x1 (hS h0 (hR h0 x0 31)).2 = true ∧ (∀ h296 : Hp, h296 = sL h0 (hR h0 x0 31) x1.toNatClampNeg ((hI h0 (hR h0 x0 13) x1.toNatClampNeg).toInt64) → (if x2 = (122 : Int32) then ((hS h0 (hR h296 x0 32)).1 = 21 ∧ (¬ (hR h296 x0 32) = 1 ∧ (ainr x1 (hS h0 (hR h296 x0 32)).2 = true ∧ (∀ h300 : Hp, h300 = sL h296 (hR h296 x0 32) x1.toNatClampNeg (21 : Int64) → (if x2 = (123 : Int32) then Ca d m_Mo_sumFields [.ref x0, .int x1] h300 (QV (fun h301 => Wp (d + 1) m_Mo_measure 208 [some (.ref x0), some (.int x1), some (.int x2), some (.int x3), some (.int x4), some (.long (0 : Int64)), none, some (.long v168), none, y9] [] h301 (QV K))) else Wp (d + 1) m_Mo_measure 208 [some (.ref x0), some (.int x1), some (.int x2), some (.int x3), some (.int x4), some (.long (0 : Int64)), none, some (.long v168), none, y9] [] h300 (QV K)))))) else (if x2 = (114 : Int32) then ((hS h0 (hR h296 x0 32)).1 = 21 ∧ (¬ (hR h296 x0 32) = 1 ∧ (ainr x1 (hS h0 (hR h296 x0 32)).2 = true ∧ (∀ h306 : Hp, h306 = sL h296 (hR h296 x0 32) x1.toNatClampNeg (120 : Int64) → (if x2 = (123 : Int32) then Ca d m_Mo_sumFields [.ref x0, .int x1] h306 (QV (fun h307 => Wp (d + 1) m_Mo_measure 208 [some (.ref x0), some (.int x1), some (.int x2), some (.int x3), some (.int x4), some (.long (0 : Int64)), none, some (.long v168), none, y9] [] h307 (QV K))) else Wp (d + 1) m_Mo_measure 208 [some (.ref x0), some (.int x1), some (.int x2), some (.int x3), some (.int x4), some (.long (0 : Int64)), none, some (.long v168), none, y9] [] h306 (QV K)))))) else ((hS h0 (hR h296 x0 31)).1 = 21 ∧ (ainr x1 (hS h0 (hR h296 x0 31)).2 = true ∧ ((hS h0 (hR h296 x0 32)).1 = 21 ∧ (¬ (hR h296 x0 32) = 1 ∧ (ainr x1 (hS h0 (hR h296 x0 32)).2 = true ∧ (∀ h314 : Hp, h314 = sL h296 (hR h296 x0 32) x1.toNatClampNeg (hL h296 (hR h296 x0 31) x1.toNatClampNeg) → (if x2 = (123 : Int32) then Ca d m_Mo_sumFields [.ref x0, .int x1] h314 (QV (fun h315 => Wp (d + 1) m_Mo_measure 208 [some (.ref x0), some (.int x1), some (.int x2), some (.int x3), some (.int x4), some (.long (0 : Int64)), none, some (.long v168), none, y9] [] h315 (QV K))) else Wp (d + 1) m_Mo_measure 208 [some (.ref x0), some (.int x1), some (.int x2), some (.int x3), some (.int x4), some (.long (0 : Int64)), none, some (.long v168), none, y9] [] h314 (QV K)))))))))))))))))))))))))))) : Wp (d + 1) m_Mo_measure 39 [some (.ref x0), some (.int x1), some (.int x2), some (.int x3), some (.int x4), y5, y6, y7, y8, y9] [] h0 (QV K) := by
  refine V.lconst (x := 0) d_Mo_measure_39 (by decide) ?_
  refine V.goto (t := 50) d_Mo_measure_40 ⟨rfl, rfl⟩ ?_
  refine V.lstore (l' := [_, _, _, _, _, _, _, _, _, _]) d_Mo_measure_50 rfl (ltb rfl) ?_
  refine V.iload d_Mo_measure_52 rfl ?_
  refine V.if_lt (t := 69) d_Mo_measure_54 ⟨rfl, rfl⟩ (fun hc => ?_) (fun hc => ?_)
  · replace hq := ifp hc hq
    exact hq
  · replace hq := ifn hc hq
    refine V.aload_n d_Mo_measure_57 rfl ?_
    obtain ⟨g165, hq⟩ := hq
    refine V.get2 d_Mo_measure_58 rfl (List.mem_singleton.mpr g165) ?_
    refine V.iload d_Mo_measure_61 rfl ?_
    obtain ⟨g166, hq⟩ := hq
    obtain ⟨g167, hq⟩ := hq
    refine V.laload d_Mo_measure_63 g166 g167 ?_
    refine V.lconst (x := 0) d_Mo_measure_64 (by decide) ?_
    refine V.lc_ge d_Mo_measure_65 d_Mo_measure_66 ⟨rfl, rfl⟩ (fun hc => ?_) (fun hc => ?_)
    · replace hq := ifp hc hq
      exact hq
    · replace hq := ifn hc hq
      refine V.aload_n d_Mo_measure_73 rfl ?_
      refine V.get2 d_Mo_measure_74 rfl (List.mem_singleton.mpr g165) ?_
      refine V.iload d_Mo_measure_77 rfl ?_
      refine V.laload d_Mo_measure_79 g166 g167 ?_
      replace hq := hq _ rfl
      refine V.lstore (l' := [_, _, _, _, _, _, _, _, _, _]) d_Mo_measure_80 rfl (ltb rfl) ?_
      refine V.aload_n d_Mo_measure_82 rfl ?_
      refine V.get2 d_Mo_measure_83 rfl (List.mem_singleton.mpr g165) ?_
      refine V.iload_n d_Mo_measure_86 rfl ?_
      refine V.iload_n d_Mo_measure_87 rfl ?_
      refine V.bipush (x := 122) d_Mo_measure_88 (by decide) ?_
      refine V.ic_ne (t := 97) d_Mo_measure_90 ⟨rfl, rfl⟩ (fun hc => ?_) (fun hc => ?_)
      · replace hq := ifp hc hq
        refine V.lconst (x := 1) d_Mo_measure_93 (by decide) ?_
        refine V.goto (t := 160) d_Mo_measure_94 ⟨rfl, rfl⟩ ?_
        obtain ⟨g169, hq⟩ := hq
        obtain ⟨g170, hq⟩ := hq
        obtain ⟨g171, hq⟩ := hq
        refine V.lastore d_Mo_measure_160 g169 g170 g171 ?_
        replace hq := hq _ rfl
        refine V.aload_n d_Mo_measure_161 rfl ?_
        refine V.get2 d_Mo_measure_162 rfl (List.mem_singleton.mpr g165) ?_
        refine V.iload_n d_Mo_measure_165 rfl ?_
        refine V.iload_n d_Mo_measure_166 rfl ?_
        refine V.bipush (x := 122) d_Mo_measure_167 (by decide) ?_
        refine V.ic_ne (t := 178) d_Mo_measure_169 ⟨rfl, rfl⟩ (fun hc => ?_) (fun hc => ?_)
        · replace hq := ifp hc hq
          refine V.ldc2_w d_Mo_measure_172 rfl ?_
          refine V.goto (t := 196) d_Mo_measure_175 ⟨rfl, rfl⟩ ?_
          obtain ⟨g173, hq⟩ := hq
          obtain ⟨g174, hq⟩ := hq
          obtain ⟨g175, hq⟩ := hq
          refine V.lastore d_Mo_measure_196 g173 g174 g175 ?_
          replace hq := hq _ rfl
          refine V.iload_n d_Mo_measure_197 rfl ?_
          refine V.bipush (x := 123) d_Mo_measure_198 (by decide) ?_
          refine V.ic_ne (t := 208) d_Mo_measure_200 ⟨rfl, rfl⟩ (fun hc => ?_) (fun hc => ?_)
          · replace hq := ifp hc hq
            refine V.aload_n d_Mo_measure_203 rfl ?_
            refine V.iload_n d_Mo_measure_204 rfl ?_
            refine V.callV d_Mo_measure_205 (cV_call (t := [_]) (rs := []) rfl (Or.inl rfl) rfl (lk1 g165) ⟨leb rfl, leb rfl⟩) hq (fun h177 hq => ?_)
            exact hq
          · replace hq := ifn hc hq
            exact hq
        · replace hq := ifn hc hq
          refine V.iload_n d_Mo_measure_178 rfl ?_
          refine V.bipush (x := 114) d_Mo_measure_179 (by decide) ?_
          refine V.ic_ne (t := 190) d_Mo_measure_181 ⟨rfl, rfl⟩ (fun hc => ?_) (fun hc => ?_)
          · replace hq := ifp hc hq
            refine V.ldc2_w d_Mo_measure_184 rfl ?_
            refine V.goto (t := 196) d_Mo_measure_187 ⟨rfl, rfl⟩ ?_
            obtain ⟨g179, hq⟩ := hq
            obtain ⟨g180, hq⟩ := hq
            obtain ⟨g181, hq⟩ := hq
            refine V.lastore d_Mo_measure_196 g179 g180 g181 ?_
            replace hq := hq _ rfl
            refine V.iload_n d_Mo_measure_197 rfl ?_
            refine V.bipush (x := 123) d_Mo_measure_198 (by decide) ?_
            refine V.ic_ne (t := 208) d_Mo_measure_200 ⟨rfl, rfl⟩ (fun hc => ?_) (fun hc => ?_)
            · replace hq := ifp hc hq
              refine V.aload_n d_Mo_measure_203 rfl ?_
              refine V.iload_n d_Mo_measure_204 rfl ?_
              refine V.callV d_Mo_measure_205 (cV_call (t := [_]) (rs := []) rfl (Or.inl rfl) rfl (lk1 g165) ⟨leb rfl, leb rfl⟩) hq (fun h183 hq => ?_)
              exact hq
            · replace hq := ifn hc hq
              exact hq
          · replace hq := ifn hc hq
            refine V.aload_n d_Mo_measure_190 rfl ?_
            refine V.get2 d_Mo_measure_191 rfl (List.mem_singleton.mpr g165) ?_
            refine V.iload_n d_Mo_measure_194 rfl ?_
            obtain ⟨g185, hq⟩ := hq
            obtain ⟨g186, hq⟩ := hq
            refine V.laload d_Mo_measure_195 g185 g186 ?_
            obtain ⟨g187, hq⟩ := hq
            obtain ⟨g188, hq⟩ := hq
            obtain ⟨g189, hq⟩ := hq
            refine V.lastore d_Mo_measure_196 g187 g188 g189 ?_
            replace hq := hq _ rfl
            refine V.iload_n d_Mo_measure_197 rfl ?_
            refine V.bipush (x := 123) d_Mo_measure_198 (by decide) ?_
            refine V.ic_ne (t := 208) d_Mo_measure_200 ⟨rfl, rfl⟩ (fun hc => ?_) (fun hc => ?_)
            · replace hq := ifp hc hq
              refine V.aload_n d_Mo_measure_203 rfl ?_
              refine V.iload_n d_Mo_measure_204 rfl ?_
              refine V.callV d_Mo_measure_205 (cV_call (t := [_]) (rs := []) rfl (Or.inl rfl) rfl (lk1 g165) ⟨leb rfl, leb rfl⟩) hq (fun h191 hq => ?_)
              exact hq
            · replace hq := ifn hc hq
              exact hq
      · replace hq := ifn hc hq
        refine V.iload_n d_Mo_measure_97 rfl ?_
        refine V.bipush (x := 102) d_Mo_measure_98 (by decide) ?_
        refine V.ic_ne (t := 109) d_Mo_measure_100 ⟨rfl, rfl⟩ (fun hc => ?_) (fun hc => ?_)
        · replace hq := ifp hc hq
          refine V.ldc2_w d_Mo_measure_103 rfl ?_
          refine V.goto (t := 160) d_Mo_measure_106 ⟨rfl, rfl⟩ ?_
          obtain ⟨g193, hq⟩ := hq
          obtain ⟨g194, hq⟩ := hq
          obtain ⟨g195, hq⟩ := hq
          refine V.lastore d_Mo_measure_160 g193 g194 g195 ?_
          replace hq := hq _ rfl
          refine V.aload_n d_Mo_measure_161 rfl ?_
          refine V.get2 d_Mo_measure_162 rfl (List.mem_singleton.mpr g165) ?_
          refine V.iload_n d_Mo_measure_165 rfl ?_
          refine V.iload_n d_Mo_measure_166 rfl ?_
          refine V.bipush (x := 122) d_Mo_measure_167 (by decide) ?_
          refine V.ic_ne (t := 178) d_Mo_measure_169 ⟨rfl, rfl⟩ (fun hc => ?_) (fun hc => ?_)
          · replace hq := ifp hc hq
            refine V.ldc2_w d_Mo_measure_172 rfl ?_
            refine V.goto (t := 196) d_Mo_measure_175 ⟨rfl, rfl⟩ ?_
            obtain ⟨g197, hq⟩ := hq
            obtain ⟨g198, hq⟩ := hq
            obtain ⟨g199, hq⟩ := hq
            refine V.lastore d_Mo_measure_196 g197 g198 g199 ?_
            replace hq := hq _ rfl
            refine V.iload_n d_Mo_measure_197 rfl ?_
            refine V.bipush (x := 123) d_Mo_measure_198 (by decide) ?_
            refine V.ic_ne (t := 208) d_Mo_measure_200 ⟨rfl, rfl⟩ (fun hc => ?_) (fun hc => ?_)
            · replace hq := ifp hc hq
              refine V.aload_n d_Mo_measure_203 rfl ?_
              refine V.iload_n d_Mo_measure_204 rfl ?_
              refine V.callV d_Mo_measure_205 (cV_call (t := [_]) (rs := []) rfl (Or.inl rfl) rfl (lk1 g165) ⟨leb rfl, leb rfl⟩) hq (fun h201 hq => ?_)
              exact hq
            · replace hq := ifn hc hq
              exact hq
          · replace hq := ifn hc hq
            refine V.iload_n d_Mo_measure_178 rfl ?_
            refine V.bipush (x := 114) d_Mo_measure_179 (by decide) ?_
            refine V.ic_ne (t := 190) d_Mo_measure_181 ⟨rfl, rfl⟩ (fun hc => ?_) (fun hc => ?_)
            · replace hq := ifp hc hq
              refine V.ldc2_w d_Mo_measure_184 rfl ?_
              refine V.goto (t := 196) d_Mo_measure_187 ⟨rfl, rfl⟩ ?_
              obtain ⟨g203, hq⟩ := hq
              obtain ⟨g204, hq⟩ := hq
              obtain ⟨g205, hq⟩ := hq
              refine V.lastore d_Mo_measure_196 g203 g204 g205 ?_
              replace hq := hq _ rfl
              refine V.iload_n d_Mo_measure_197 rfl ?_
              refine V.bipush (x := 123) d_Mo_measure_198 (by decide) ?_
              refine V.ic_ne (t := 208) d_Mo_measure_200 ⟨rfl, rfl⟩ (fun hc => ?_) (fun hc => ?_)
              · replace hq := ifp hc hq
                refine V.aload_n d_Mo_measure_203 rfl ?_
                refine V.iload_n d_Mo_measure_204 rfl ?_
                refine V.callV d_Mo_measure_205 (cV_call (t := [_]) (rs := []) rfl (Or.inl rfl) rfl (lk1 g165) ⟨leb rfl, leb rfl⟩) hq (fun h207 hq => ?_)
                exact hq
              · replace hq := ifn hc hq
                exact hq
            · replace hq := ifn hc hq
              refine V.aload_n d_Mo_measure_190 rfl ?_
              refine V.get2 d_Mo_measure_191 rfl (List.mem_singleton.mpr g165) ?_
              refine V.iload_n d_Mo_measure_194 rfl ?_
              obtain ⟨g209, hq⟩ := hq
              obtain ⟨g210, hq⟩ := hq
              refine V.laload d_Mo_measure_195 g209 g210 ?_
              obtain ⟨g211, hq⟩ := hq
              obtain ⟨g212, hq⟩ := hq
              obtain ⟨g213, hq⟩ := hq
              refine V.lastore d_Mo_measure_196 g211 g212 g213 ?_
              replace hq := hq _ rfl
              refine V.iload_n d_Mo_measure_197 rfl ?_
              refine V.bipush (x := 123) d_Mo_measure_198 (by decide) ?_
              refine V.ic_ne (t := 208) d_Mo_measure_200 ⟨rfl, rfl⟩ (fun hc => ?_) (fun hc => ?_)
              · replace hq := ifp hc hq
                refine V.aload_n d_Mo_measure_203 rfl ?_
                refine V.iload_n d_Mo_measure_204 rfl ?_
                refine V.callV d_Mo_measure_205 (cV_call (t := [_]) (rs := []) rfl (Or.inl rfl) rfl (lk1 g165) ⟨leb rfl, leb rfl⟩) hq (fun h215 hq => ?_)
                exact hq
              · replace hq := ifn hc hq
                exact hq
        · replace hq := ifn hc hq
          refine V.iload_n d_Mo_measure_109 rfl ?_
          refine V.bipush (x := 100) d_Mo_measure_110 (by decide) ?_
          refine V.ic_ne (t := 121) d_Mo_measure_112 ⟨rfl, rfl⟩ (fun hc => ?_) (fun hc => ?_)
          · replace hq := ifp hc hq
            refine V.ldc2_w d_Mo_measure_115 rfl ?_
            refine V.goto (t := 160) d_Mo_measure_118 ⟨rfl, rfl⟩ ?_
            obtain ⟨g217, hq⟩ := hq
            obtain ⟨g218, hq⟩ := hq
            obtain ⟨g219, hq⟩ := hq
            refine V.lastore d_Mo_measure_160 g217 g218 g219 ?_
            replace hq := hq _ rfl
            refine V.aload_n d_Mo_measure_161 rfl ?_
            refine V.get2 d_Mo_measure_162 rfl (List.mem_singleton.mpr g165) ?_
            refine V.iload_n d_Mo_measure_165 rfl ?_
            refine V.iload_n d_Mo_measure_166 rfl ?_
            refine V.bipush (x := 122) d_Mo_measure_167 (by decide) ?_
            refine V.ic_ne (t := 178) d_Mo_measure_169 ⟨rfl, rfl⟩ (fun hc => ?_) (fun hc => ?_)
            · replace hq := ifp hc hq
              refine V.ldc2_w d_Mo_measure_172 rfl ?_
              refine V.goto (t := 196) d_Mo_measure_175 ⟨rfl, rfl⟩ ?_
              obtain ⟨g221, hq⟩ := hq
              obtain ⟨g222, hq⟩ := hq
              obtain ⟨g223, hq⟩ := hq
              refine V.lastore d_Mo_measure_196 g221 g222 g223 ?_
              replace hq := hq _ rfl
              refine V.iload_n d_Mo_measure_197 rfl ?_
              refine V.bipush (x := 123) d_Mo_measure_198 (by decide) ?_
              refine V.ic_ne (t := 208) d_Mo_measure_200 ⟨rfl, rfl⟩ (fun hc => ?_) (fun hc => ?_)
              · replace hq := ifp hc hq
                refine V.aload_n d_Mo_measure_203 rfl ?_
                refine V.iload_n d_Mo_measure_204 rfl ?_
                refine V.callV d_Mo_measure_205 (cV_call (t := [_]) (rs := []) rfl (Or.inl rfl) rfl (lk1 g165) ⟨leb rfl, leb rfl⟩) hq (fun h225 hq => ?_)
                exact hq
              · replace hq := ifn hc hq
                exact hq
            · replace hq := ifn hc hq
              refine V.iload_n d_Mo_measure_178 rfl ?_
              refine V.bipush (x := 114) d_Mo_measure_179 (by decide) ?_
              refine V.ic_ne (t := 190) d_Mo_measure_181 ⟨rfl, rfl⟩ (fun hc => ?_) (fun hc => ?_)
              · replace hq := ifp hc hq
                refine V.ldc2_w d_Mo_measure_184 rfl ?_
                refine V.goto (t := 196) d_Mo_measure_187 ⟨rfl, rfl⟩ ?_
                obtain ⟨g227, hq⟩ := hq
                obtain ⟨g228, hq⟩ := hq
                obtain ⟨g229, hq⟩ := hq
                refine V.lastore d_Mo_measure_196 g227 g228 g229 ?_
                replace hq := hq _ rfl
                refine V.iload_n d_Mo_measure_197 rfl ?_
                refine V.bipush (x := 123) d_Mo_measure_198 (by decide) ?_
                refine V.ic_ne (t := 208) d_Mo_measure_200 ⟨rfl, rfl⟩ (fun hc => ?_) (fun hc => ?_)
                · replace hq := ifp hc hq
                  refine V.aload_n d_Mo_measure_203 rfl ?_
                  refine V.iload_n d_Mo_measure_204 rfl ?_
                  refine V.callV d_Mo_measure_205 (cV_call (t := [_]) (rs := []) rfl (Or.inl rfl) rfl (lk1 g165) ⟨leb rfl, leb rfl⟩) hq (fun h231 hq => ?_)
                  exact hq
                · replace hq := ifn hc hq
                  exact hq
              · replace hq := ifn hc hq
                refine V.aload_n d_Mo_measure_190 rfl ?_
                refine V.get2 d_Mo_measure_191 rfl (List.mem_singleton.mpr g165) ?_
                refine V.iload_n d_Mo_measure_194 rfl ?_
                obtain ⟨g233, hq⟩ := hq
                obtain ⟨g234, hq⟩ := hq
                refine V.laload d_Mo_measure_195 g233 g234 ?_
                obtain ⟨g235, hq⟩ := hq
                obtain ⟨g236, hq⟩ := hq
                obtain ⟨g237, hq⟩ := hq
                refine V.lastore d_Mo_measure_196 g235 g236 g237 ?_
                replace hq := hq _ rfl
                refine V.iload_n d_Mo_measure_197 rfl ?_
                refine V.bipush (x := 123) d_Mo_measure_198 (by decide) ?_
                refine V.ic_ne (t := 208) d_Mo_measure_200 ⟨rfl, rfl⟩ (fun hc => ?_) (fun hc => ?_)
                · replace hq := ifp hc hq
                  refine V.aload_n d_Mo_measure_203 rfl ?_
                  refine V.iload_n d_Mo_measure_204 rfl ?_
                  refine V.callV d_Mo_measure_205 (cV_call (t := [_]) (rs := []) rfl (Or.inl rfl) rfl (lk1 g165) ⟨leb rfl, leb rfl⟩) hq (fun h239 hq => ?_)
                  exact hq
                · replace hq := ifn hc hq
                  exact hq
          · replace hq := ifn hc hq
            refine V.iload_n d_Mo_measure_121 rfl ?_
            refine V.bipush (x := 114) d_Mo_measure_122 (by decide) ?_
            refine V.ic_ne (t := 131) d_Mo_measure_124 ⟨rfl, rfl⟩ (fun hc => ?_) (fun hc => ?_)
            · replace hq := ifp hc hq
              refine V.lconst (x := 0) d_Mo_measure_127 (by decide) ?_
              refine V.goto (t := 160) d_Mo_measure_128 ⟨rfl, rfl⟩ ?_
              obtain ⟨g241, hq⟩ := hq
              obtain ⟨g242, hq⟩ := hq
              obtain ⟨g243, hq⟩ := hq
              refine V.lastore d_Mo_measure_160 g241 g242 g243 ?_
              replace hq := hq _ rfl
              refine V.aload_n d_Mo_measure_161 rfl ?_
              refine V.get2 d_Mo_measure_162 rfl (List.mem_singleton.mpr g165) ?_
              refine V.iload_n d_Mo_measure_165 rfl ?_
              refine V.iload_n d_Mo_measure_166 rfl ?_
              refine V.bipush (x := 122) d_Mo_measure_167 (by decide) ?_
              refine V.ic_ne (t := 178) d_Mo_measure_169 ⟨rfl, rfl⟩ (fun hc => ?_) (fun hc => ?_)
              · replace hq := ifp hc hq
                refine V.ldc2_w d_Mo_measure_172 rfl ?_
                refine V.goto (t := 196) d_Mo_measure_175 ⟨rfl, rfl⟩ ?_
                obtain ⟨g245, hq⟩ := hq
                obtain ⟨g246, hq⟩ := hq
                obtain ⟨g247, hq⟩ := hq
                refine V.lastore d_Mo_measure_196 g245 g246 g247 ?_
                replace hq := hq _ rfl
                refine V.iload_n d_Mo_measure_197 rfl ?_
                refine V.bipush (x := 123) d_Mo_measure_198 (by decide) ?_
                refine V.ic_ne (t := 208) d_Mo_measure_200 ⟨rfl, rfl⟩ (fun hc => ?_) (fun hc => ?_)
                · replace hq := ifp hc hq
                  refine V.aload_n d_Mo_measure_203 rfl ?_
                  refine V.iload_n d_Mo_measure_204 rfl ?_
                  refine V.callV d_Mo_measure_205 (cV_call (t := [_]) (rs := []) rfl (Or.inl rfl) rfl (lk1 g165) ⟨leb rfl, leb rfl⟩) hq (fun h249 hq => ?_)
                  exact hq
                · replace hq := ifn hc hq
                  exact hq
              · replace hq := ifn hc hq
                refine V.iload_n d_Mo_measure_178 rfl ?_
                refine V.bipush (x := 114) d_Mo_measure_179 (by decide) ?_
                refine V.ic_ne (t := 190) d_Mo_measure_181 ⟨rfl, rfl⟩ (fun hc => ?_) (fun hc => ?_)
                · replace hq := ifp hc hq
                  refine V.ldc2_w d_Mo_measure_184 rfl ?_
                  refine V.goto (t := 196) d_Mo_measure_187 ⟨rfl, rfl⟩ ?_
                  obtain ⟨g251, hq⟩ := hq
                  obtain ⟨g252, hq⟩ := hq
                  obtain ⟨g253, hq⟩ := hq
                  refine V.lastore d_Mo_measure_196 g251 g252 g253 ?_
                  replace hq := hq _ rfl
                  refine V.iload_n d_Mo_measure_197 rfl ?_
                  refine V.bipush (x := 123) d_Mo_measure_198 (by decide) ?_
                  refine V.ic_ne (t := 208) d_Mo_measure_200 ⟨rfl, rfl⟩ (fun hc => ?_) (fun hc => ?_)
                  · replace hq := ifp hc hq
                    refine V.aload_n d_Mo_measure_203 rfl ?_
                    refine V.iload_n d_Mo_measure_204 rfl ?_
                    refine V.callV d_Mo_measure_205 (cV_call (t := [_]) (rs := []) rfl (Or.inl rfl) rfl (lk1 g165) ⟨leb rfl, leb rfl⟩) hq (fun h255 hq => ?_)
                    exact hq
                  · replace hq := ifn hc hq
                    exact hq
                · replace hq := ifn hc hq
                  refine V.aload_n d_Mo_measure_190 rfl ?_
                  refine V.get2 d_Mo_measure_191 rfl (List.mem_singleton.mpr g165) ?_
                  refine V.iload_n d_Mo_measure_194 rfl ?_
                  obtain ⟨g257, hq⟩ := hq
                  obtain ⟨g258, hq⟩ := hq
                  refine V.laload d_Mo_measure_195 g257 g258 ?_
                  obtain ⟨g259, hq⟩ := hq
                  obtain ⟨g260, hq⟩ := hq
                  obtain ⟨g261, hq⟩ := hq
                  refine V.lastore d_Mo_measure_196 g259 g260 g261 ?_
                  replace hq := hq _ rfl
                  refine V.iload_n d_Mo_measure_197 rfl ?_
                  refine V.bipush (x := 123) d_Mo_measure_198 (by decide) ?_
                  refine V.ic_ne (t := 208) d_Mo_measure_200 ⟨rfl, rfl⟩ (fun hc => ?_) (fun hc => ?_)
                  · replace hq := ifp hc hq
                    refine V.aload_n d_Mo_measure_203 rfl ?_
                    refine V.iload_n d_Mo_measure_204 rfl ?_
                    refine V.callV d_Mo_measure_205 (cV_call (t := [_]) (rs := []) rfl (Or.inl rfl) rfl (lk1 g165) ⟨leb rfl, leb rfl⟩) hq (fun h263 hq => ?_)
                    exact hq
                  · replace hq := ifn hc hq
                    exact hq
            · replace hq := ifn hc hq
              refine V.iload_n d_Mo_measure_131 rfl ?_
              refine V.bipush (x := 112) d_Mo_measure_132 (by decide) ?_
              refine V.ic_ne (t := 153) d_Mo_measure_134 ⟨rfl, rfl⟩ (fun hc => ?_) (fun hc => ?_)
              · replace hq := ifp hc hq
                refine V.aload_n d_Mo_measure_137 rfl ?_
                refine V.get2 d_Mo_measure_138 rfl (List.mem_singleton.mpr g165) ?_
                refine V.iload_n d_Mo_measure_141 rfl ?_
                obtain ⟨g265, hq⟩ := hq
                obtain ⟨g266, hq⟩ := hq
                refine V.iaload d_Mo_measure_142 g265 g266 ?_
                refine V.bipush (x := 7) d_Mo_measure_143 (by decide) ?_
                refine V.iadd d_Mo_measure_145 ?_
                refine V.bipush (x := 8) d_Mo_measure_146 (by decide) ?_
                refine V.idiv d_Mo_measure_148 (by decide) ?_
                refine V.i2l d_Mo_measure_149 ?_
                refine V.goto (t := 160) d_Mo_measure_150 ⟨rfl, rfl⟩ ?_
                obtain ⟨g267, hq⟩ := hq
                obtain ⟨g268, hq⟩ := hq
                obtain ⟨g269, hq⟩ := hq
                refine V.lastore d_Mo_measure_160 g267 g268 g269 ?_
                replace hq := hq _ rfl
                refine V.aload_n d_Mo_measure_161 rfl ?_
                refine V.get2 d_Mo_measure_162 rfl (List.mem_singleton.mpr g165) ?_
                refine V.iload_n d_Mo_measure_165 rfl ?_
                refine V.iload_n d_Mo_measure_166 rfl ?_
                refine V.bipush (x := 122) d_Mo_measure_167 (by decide) ?_
                refine V.ic_ne (t := 178) d_Mo_measure_169 ⟨rfl, rfl⟩ (fun hc => ?_) (fun hc => ?_)
                · replace hq := ifp hc hq
                  refine V.ldc2_w d_Mo_measure_172 rfl ?_
                  refine V.goto (t := 196) d_Mo_measure_175 ⟨rfl, rfl⟩ ?_
                  obtain ⟨g271, hq⟩ := hq
                  obtain ⟨g272, hq⟩ := hq
                  obtain ⟨g273, hq⟩ := hq
                  refine V.lastore d_Mo_measure_196 g271 g272 g273 ?_
                  replace hq := hq _ rfl
                  refine V.iload_n d_Mo_measure_197 rfl ?_
                  refine V.bipush (x := 123) d_Mo_measure_198 (by decide) ?_
                  refine V.ic_ne (t := 208) d_Mo_measure_200 ⟨rfl, rfl⟩ (fun hc => ?_) (fun hc => ?_)
                  · replace hq := ifp hc hq
                    refine V.aload_n d_Mo_measure_203 rfl ?_
                    refine V.iload_n d_Mo_measure_204 rfl ?_
                    refine V.callV d_Mo_measure_205 (cV_call (t := [_]) (rs := []) rfl (Or.inl rfl) rfl (lk1 g165) ⟨leb rfl, leb rfl⟩) hq (fun h275 hq => ?_)
                    exact hq
                  · replace hq := ifn hc hq
                    exact hq
                · replace hq := ifn hc hq
                  refine V.iload_n d_Mo_measure_178 rfl ?_
                  refine V.bipush (x := 114) d_Mo_measure_179 (by decide) ?_
                  refine V.ic_ne (t := 190) d_Mo_measure_181 ⟨rfl, rfl⟩ (fun hc => ?_) (fun hc => ?_)
                  · replace hq := ifp hc hq
                    refine V.ldc2_w d_Mo_measure_184 rfl ?_
                    refine V.goto (t := 196) d_Mo_measure_187 ⟨rfl, rfl⟩ ?_
                    obtain ⟨g277, hq⟩ := hq
                    obtain ⟨g278, hq⟩ := hq
                    obtain ⟨g279, hq⟩ := hq
                    refine V.lastore d_Mo_measure_196 g277 g278 g279 ?_
                    replace hq := hq _ rfl
                    refine V.iload_n d_Mo_measure_197 rfl ?_
                    refine V.bipush (x := 123) d_Mo_measure_198 (by decide) ?_
                    refine V.ic_ne (t := 208) d_Mo_measure_200 ⟨rfl, rfl⟩ (fun hc => ?_) (fun hc => ?_)
                    · replace hq := ifp hc hq
                      refine V.aload_n d_Mo_measure_203 rfl ?_
                      refine V.iload_n d_Mo_measure_204 rfl ?_
                      refine V.callV d_Mo_measure_205 (cV_call (t := [_]) (rs := []) rfl (Or.inl rfl) rfl (lk1 g165) ⟨leb rfl, leb rfl⟩) hq (fun h281 hq => ?_)
                      exact hq
                    · replace hq := ifn hc hq
                      exact hq
                  · replace hq := ifn hc hq
                    refine V.aload_n d_Mo_measure_190 rfl ?_
                    refine V.get2 d_Mo_measure_191 rfl (List.mem_singleton.mpr g165) ?_
                    refine V.iload_n d_Mo_measure_194 rfl ?_
                    obtain ⟨g283, hq⟩ := hq
                    obtain ⟨g284, hq⟩ := hq
                    refine V.laload d_Mo_measure_195 g283 g284 ?_
                    obtain ⟨g285, hq⟩ := hq
                    obtain ⟨g286, hq⟩ := hq
                    obtain ⟨g287, hq⟩ := hq
                    refine V.lastore d_Mo_measure_196 g285 g286 g287 ?_
                    replace hq := hq _ rfl
                    refine V.iload_n d_Mo_measure_197 rfl ?_
                    refine V.bipush (x := 123) d_Mo_measure_198 (by decide) ?_
                    refine V.ic_ne (t := 208) d_Mo_measure_200 ⟨rfl, rfl⟩ (fun hc => ?_) (fun hc => ?_)
                    · replace hq := ifp hc hq
                      refine V.aload_n d_Mo_measure_203 rfl ?_
                      refine V.iload_n d_Mo_measure_204 rfl ?_
                      refine V.callV d_Mo_measure_205 (cV_call (t := [_]) (rs := []) rfl (Or.inl rfl) rfl (lk1 g165) ⟨leb rfl, leb rfl⟩) hq (fun h289 hq => ?_)
                      exact hq
                    · replace hq := ifn hc hq
                      exact hq
              · replace hq := ifn hc hq
                refine V.aload_n d_Mo_measure_153 rfl ?_
                refine V.get2 d_Mo_measure_154 rfl (List.mem_singleton.mpr g165) ?_
                refine V.iload_n d_Mo_measure_157 rfl ?_
                obtain ⟨g291, hq⟩ := hq
                obtain ⟨g292, hq⟩ := hq
                refine V.iaload d_Mo_measure_158 g291 g292 ?_
                refine V.i2l d_Mo_measure_159 ?_
                obtain ⟨g293, hq⟩ := hq
                obtain ⟨g294, hq⟩ := hq
                obtain ⟨g295, hq⟩ := hq
                refine V.lastore d_Mo_measure_160 g293 g294 g295 ?_
                replace hq := hq _ rfl
                refine V.aload_n d_Mo_measure_161 rfl ?_
                refine V.get2 d_Mo_measure_162 rfl (List.mem_singleton.mpr g165) ?_
                refine V.iload_n d_Mo_measure_165 rfl ?_
                refine V.iload_n d_Mo_measure_166 rfl ?_
                refine V.bipush (x := 122) d_Mo_measure_167 (by decide) ?_
                refine V.ic_ne (t := 178) d_Mo_measure_169 ⟨rfl, rfl⟩ (fun hc => ?_) (fun hc => ?_)
                · replace hq := ifp hc hq
                  refine V.ldc2_w d_Mo_measure_172 rfl ?_
                  refine V.goto (t := 196) d_Mo_measure_175 ⟨rfl, rfl⟩ ?_
                  obtain ⟨g297, hq⟩ := hq
                  obtain ⟨g298, hq⟩ := hq
                  obtain ⟨g299, hq⟩ := hq
                  refine V.lastore d_Mo_measure_196 g297 g298 g299 ?_
                  replace hq := hq _ rfl
                  refine V.iload_n d_Mo_measure_197 rfl ?_
                  refine V.bipush (x := 123) d_Mo_measure_198 (by decide) ?_
                  refine V.ic_ne (t := 208) d_Mo_measure_200 ⟨rfl, rfl⟩ (fun hc => ?_) (fun hc => ?_)
                  · replace hq := ifp hc hq
                    refine V.aload_n d_Mo_measure_203 rfl ?_
                    refine V.iload_n d_Mo_measure_204 rfl ?_
                    refine V.callV d_Mo_measure_205 (cV_call (t := [_]) (rs := []) rfl (Or.inl rfl) rfl (lk1 g165) ⟨leb rfl, leb rfl⟩) hq (fun h301 hq => ?_)
                    exact hq
                  · replace hq := ifn hc hq
                    exact hq
                · replace hq := ifn hc hq
                  refine V.iload_n d_Mo_measure_178 rfl ?_
                  refine V.bipush (x := 114) d_Mo_measure_179 (by decide) ?_
                  refine V.ic_ne (t := 190) d_Mo_measure_181 ⟨rfl, rfl⟩ (fun hc => ?_) (fun hc => ?_)
                  · replace hq := ifp hc hq
                    refine V.ldc2_w d_Mo_measure_184 rfl ?_
                    refine V.goto (t := 196) d_Mo_measure_187 ⟨rfl, rfl⟩ ?_
                    obtain ⟨g303, hq⟩ := hq
                    obtain ⟨g304, hq⟩ := hq
                    obtain ⟨g305, hq⟩ := hq
                    refine V.lastore d_Mo_measure_196 g303 g304 g305 ?_
                    replace hq := hq _ rfl
                    refine V.iload_n d_Mo_measure_197 rfl ?_
                    refine V.bipush (x := 123) d_Mo_measure_198 (by decide) ?_
                    refine V.ic_ne (t := 208) d_Mo_measure_200 ⟨rfl, rfl⟩ (fun hc => ?_) (fun hc => ?_)
                    · replace hq := ifp hc hq
                      refine V.aload_n d_Mo_measure_203 rfl ?_
                      refine V.iload_n d_Mo_measure_204 rfl ?_
                      refine V.callV d_Mo_measure_205 (cV_call (t := [_]) (rs := []) rfl (Or.inl rfl) rfl (lk1 g165) ⟨leb rfl, leb rfl⟩) hq (fun h307 hq => ?_)
                      exact hq
                    · replace hq := ifn hc hq
                      exact hq
                  · replace hq := ifn hc hq
                    refine V.aload_n d_Mo_measure_190 rfl ?_
                    refine V.get2 d_Mo_measure_191 rfl (List.mem_singleton.mpr g165) ?_
                    refine V.iload_n d_Mo_measure_194 rfl ?_
                    obtain ⟨g309, hq⟩ := hq
                    obtain ⟨g310, hq⟩ := hq
                    refine V.laload d_Mo_measure_195 g309 g310 ?_
                    obtain ⟨g311, hq⟩ := hq
                    obtain ⟨g312, hq⟩ := hq
                    obtain ⟨g313, hq⟩ := hq
                    refine V.lastore d_Mo_measure_196 g311 g312 g313 ?_
                    replace hq := hq _ rfl
                    refine V.iload_n d_Mo_measure_197 rfl ?_
                    refine V.bipush (x := 123) d_Mo_measure_198 (by decide) ?_
                    refine V.ic_ne (t := 208) d_Mo_measure_200 ⟨rfl, rfl⟩ (fun hc => ?_) (fun hc => ?_)
                    · replace hq := ifp hc hq
                      refine V.aload_n d_Mo_measure_203 rfl ?_
                      refine V.iload_n d_Mo_measure_204 rfl ?_
                      refine V.callV d_Mo_measure_205 (cV_call (t := [_]) (rs := []) rfl (Or.inl rfl) rfl (lk1 g165) ⟨leb rfl, leb rfl⟩) hq (fun h315 hq => ?_)
                      exact hq
                    · replace hq := ifn hc hq
                      exact hq
set_option maxRecDepth 100000 in
theorem w_Mo_measure_69 {d : Nat} {K : Hp → Prop} {x0 : Nat} {x1 : Int32} {x2 : Int32} {x3 : Int32} {y4 : Option Value} {x5 : Int64} {y7 : Option Value} {y8 : Option Value} {y9 : Option Value} {h0 : Hp} (hq :
  ((hS h0 x0).1 = 8 ∧ (if x2 = (122 : Int32) then ((hS h0 (hR h0 x0 31)).1 = 21 ∧ (¬ (hR h0 x0 31) = 1 ∧ (ainr x1 (hS h0 (hR h0 x0 31)).2 = true ∧ (∀ h321 : Hp, h321 = sL h0 (hR h0 x0 31) x1.toNatClampNeg (1 : Int64) → (if x2 = (122 : Int32) then ((hS h0 (hR h321 x0 32)).1 = 21 ∧ (¬ (hR h321 x0 32) = 1 ∧ (ainr x1 (hS h0 (hR h321 x0 32)).2 = true ∧ (∀ h325 : Hp, h325 = sL h321 (hR h321 x0 32) x1.toNatClampNeg (21 : Int64) → (if x2 = (123 : Int32) then Ca d m_Mo_sumFields [.ref x0, .int x1] h325 (QV (fun h326 => Wp (d + 1) m_Mo_measure 208 [some (.ref x0), some (.int x1), some (.int x2), some (.int x3), y4, some (.long x5), none, some (.long (0 : Int64)), none, y9] [] h326 (QV K))) else Wp (d + 1) m_Mo_measure 208 [some (.ref x0), some (.int x1), some (.int x2), some (.int x3), y4, some (.long x5), none, some (.long (0 : Int64)), none, y9] [] h325 (QV K)))))) else (if x2 = (114 : Int32) then ((hS h0 (hR h321 x0 32)).1 = 21 ∧ (¬ (hR h321 x0 32) = 1 ∧ (ainr x1 (hS h0 (hR h321 x0 32)).2 = true ∧ (∀ h331 : Hp, h331 = sL h321 (hR h321 x0 32) x1.toNatClampNeg (120 : Int64) → (if x2 = (123 : Int32) then Ca d m_Mo_sumFields [.ref x0, .int x1] h331 (QV (fun h332 => Wp (d + 1) m_Mo_measure 208 [some (.ref x0), some (.int x1), some (.int x2), some (.int x3), y4, some (.long x5), none, some (.long (0 : Int64)), none, y9] [] h332 (QV K))) else Wp (d + 1) m_Mo_measure 208 [some (.ref x0), some (.int x1), some (.int x2), some (.int x3), y4, some (.long x5), none, some (.long (0 : Int64)), none, y9] [] h331 (QV K)))))) else ((hS h0 (hR h321 x0 31)).1 = 21 ∧ (ainr x1 (hS h0 (hR h321 x0 31)).2 = true ∧ ((hS h0 (hR h321 x0 32)).1 = 21 ∧ (¬ (hR h321 x0 32) = 1 ∧ (ainr x1 (hS h0 (hR h321 x0 32)).2 = true ∧ (∀ h339 : Hp, h339 = sL h321 (hR h321 x0 32) x1.toNatClampNeg (hL h321 (hR h321 x0 31) x1.toNatClampNeg) → (if x2 = (123 : Int32) then Ca d m_Mo_sumFields [.ref x0, .int x1] h339 (QV (fun h340 => Wp (d + 1) m_Mo_measure 208 [some (.ref x0), some (.int x1), some (.int x2), some (.int x3), y4, some (.long x5), none, some (.long (0 : Int64)), none, y9] [] h340 (QV K))) else Wp (d + 1) m_Mo_measure 208 [some (.ref x0), some (.int x1), some (.int x2), some (.int x3), y4, some (.long x5), none, some (.long (0 : Int64)), none, y9] [] h339 (QV K)))))))))))))) else (if x2 = (102 : Int32) then ((hS h0 (hR h0 x0 31)).1 = 21 ∧ (¬ (hR h0 x0 31) = 1 ∧ (ainr x1 (hS h0 (hR h0 x0 31)).2 = true ∧ (∀ h345 : Hp, h345 = sL h0 (hR h0 x0 31) x1.toNatClampNeg (4 : Int64) → (if x2 = (122 : Int32) then ((hS h0 (hR h345 x0 32)).1 = 21 ∧ (¬ (hR h345 x0 32) = 1 ∧ (ainr x1 (hS h0 (hR h345 x0 32)).2 = true ∧ (∀ h349 : Hp, h349 = sL h345 (hR h345 x0 32) x1.toNatClampNeg (21 : Int64) → (if x2 = (123 : Int32) then Ca d m_Mo_sumFields [.ref x0, .int x1] h349 (QV (fun h350 => Wp (d + 1) m_Mo_measure 208 [some (.ref x0), some (.int x1), some (.int x2), some (.int x3), y4, some (.long x5), none, some (.long (0 : Int64)), none, y9] [] h350 (QV K))) else Wp (d + 1) m_Mo_measure 208 [some (.ref x0), some (.int x1), some (.int x2), some (.int x3), y4, some (.long x5), none, some (.long (0 : Int64)), none, y9] [] h349 (QV K)))))) else (if x2 = (114 : Int32) then ((hS h0 (hR h345 x0 32)).1 = 21 ∧ (¬ (hR h345 x0 32) = 1 ∧ (ainr x1 (hS h0 (hR h345 x0 32)).2 = true ∧ (∀ h355 : Hp, h355 = sL h345 (hR h345 x0 32) x1.toNatClampNeg (120 : Int64) → (if x2 = (123 : Int32) then Ca d m_Mo_sumFields [.ref x0, .int x1] h355 (QV (fun h356 => Wp (d + 1) m_Mo_measure 208 [some (.ref x0), some (.int x1), some (.int x2), some (.int x3), y4, some (.long x5), none, some (.long (0 : Int64)), none, y9] [] h356 (QV K))) else Wp (d + 1) m_Mo_measure 208 [some (.ref x0), some (.int x1), some (.int x2), some (.int x3), y4, some (.long x5), none, some (.long (0 : Int64)), none, y9] [] h355 (QV K)))))) else ((hS h0 (hR h345 x0 31)).1 = 21 ∧ (ainr x1 (hS h0 (hR h345 x0 31)).2 = true ∧ ((hS h0 (hR h345 x0 32)).1 = 21 ∧ (¬ (hR h345 x0 32) = 1 ∧ (ainr x1 (hS h0 (hR h345 x0 32)).2 = true ∧ (∀ h363 : Hp, h363 = sL h345 (hR h345 x0 32) x1.toNatClampNeg (hL h345 (hR h345 x0 31) x1.toNatClampNeg) → (if x2 = (123 : Int32) then Ca d m_Mo_sumFields [.ref x0, .int x1] h363 (QV (fun h364 => Wp (d + 1) m_Mo_measure 208 [some (.ref x0), some (.int x1), some (.int x2), some (.int x3), y4, some (.long x5), none, some (.long (0 : Int64)), none, y9] [] h364 (QV K))) else Wp (d + 1) m_Mo_measure 208 [some (.ref x0), some (.int x1), some (.int x2), some (.int x3), y4, some (.long x5), none, some (.long (0 : Int64)), none, y9] [] h363 (QV K)))))))))))))) else (if x2 = (100 : Int32) then ((hS h0 (hR h0 x0 31)).1 = 21 ∧ (¬ (hR h0 x0 31) = 1 ∧ (ainr x1 (hS h0 (hR h0 x0 31)).2 = true ∧ (∀ h369 : Hp, h369 = sL h0 (hR h0 x0 31) x1.toNatClampNeg (8 : Int64) → (if x2 = (122 : Int32) then ((hS h0 (hR h369 x0 32)).1 = 21 ∧ (¬ (hR h369 x0 32) = 1 ∧ (ainr x1 (hS h0 (hR h369 x0 32)).2 = true ∧ (∀ h373 : Hp, h373 = sL h369 (hR h369 x0 32) x1.toNatClampNeg (21 : Int64) → (if x2 = (123 : Int32) then Ca d m_Mo_sumFields [.ref x0, .int x1] h373 (QV (fun h374 => Wp (d + 1) m_Mo_measure 208 [some (.ref x0), some (.int x1), some (.int x2), some (.int x3), y4, some (.long x5), none, some (.long (0 : Int64)), none, y9] [] h374 (QV K))) else Wp (d + 1) m_Mo_measure 208 [some (.ref x0), some (.int x1), some (.int x2), some (.int x3), y4, some (.long x5), none, some (.long (0 : Int64)), none, y9] [] h373 (QV K)))))) else (if x2 = (114 : Int32) then ((hS h0 (hR h369 x0 32)).1 = 21 ∧ (¬ (hR h369 x0 32) = 1 ∧ (ainr x1 (hS h0 (hR h369 x0 32)).2 = true ∧ (∀ h379 : Hp, h379 = sL h369 (hR h369 x0 32) x1.toNatClampNeg (120 : Int64) → (if x2 = (123 : Int32) then Ca d m_Mo_sumFields [.ref x0, .int x1] h379 (QV (fun h380 => Wp (d + 1) m_Mo_measure 208 [some (.ref x0), some (.int x1), some (.int x2), some (.int x3), y4, some (.long x5), none, some (.long (0 : Int64)), none, y9] [] h380 (QV K))) else Wp (d + 1) m_Mo_measure 208 [some (.ref x0), some (.int x1), some (.int x2), some (.int x3), y4, some (.long x5), none, some (.long (0 : Int64)), none, y9] [] h379 (QV K)))))) else ((hS h0 (hR h369 x0 31)).1 = 21 ∧ (ainr x1 (hS h0 (hR h369 x0 31)).2 = true ∧ ((hS h0 (hR h369 x0 32)).1 = 21 ∧ (¬ (hR h369 x0 32) = 1 ∧ (ainr x1 (hS h0 (hR h369 x0 32)).2 = true ∧ (∀ h387 : Hp, h387 = sL h369 (hR h369 x0 32) x1.toNatClampNeg (hL h369 (hR h369 x0 31) x1.toNatClampNeg) → (if x2 = (123 : Int32) then Ca d m_Mo_sumFields [.ref x0, .int x1] h387 (QV (fun h388 => Wp (d + 1) m_Mo_measure 208 [some (.ref x0), some (.int x1), some (.int x2), some (.int x3), y4, some (.long x5), none, some (.long (0 : Int64)), none, y9] [] h388 (QV K))) else Wp (d + 1) m_Mo_measure 208 [some (.ref x0), some (.int x1), some (.int x2), some (.int x3), y4, some (.long x5), none, some (.long (0 : Int64)), none, y9] [] h387 (QV K)))))))))))))) else (if x2 = (114 : Int32) then ((hS h0 (hR h0 x0 31)).1 = 21 ∧ (¬ (hR h0 x0 31) = 1 ∧ (ainr x1 (hS h0 (hR h0 x0 31)).2 = true ∧ (∀ h393 : Hp, h393 = sL h0 (hR h0 x0 31) x1.toNatClampNeg (0 : Int64) → (if x2 = (122 : Int32) then ((hS h0 (hR h393 x0 32)).1 = 21 ∧ (¬ (hR h393 x0 32) = 1 ∧ (ainr x1 (hS h0 (hR h393 x0 32)).2 = true ∧ (∀ h397 : Hp, h397 = sL h393 (hR h393 x0 32) x1.toNatClampNeg (21 : Int64) → (if x2 = (123 : Int32) then Ca d m_Mo_sumFields [.ref x0, .int x1] h397 (QV (fun h398 => Wp (d + 1) m_Mo_measure 208 [some (.ref x0), some (.int x1), some (.int x2), some (.int x3), y4, some (.long x5), none, some (.long (0 : Int64)), none, y9] [] h398 (QV K))) else Wp (d + 1) m_Mo_measure 208 [some (.ref x0), some (.int x1), some (.int x2), some (.int x3), y4, some (.long x5), none, some (.long (0 : Int64)), none, y9] [] h397 (QV K)))))) else (if x2 = (114 : Int32) then ((hS h0 (hR h393 x0 32)).1 = 21 ∧ (¬ (hR h393 x0 32) = 1 ∧ (ainr x1 (hS h0 (hR h393 x0 32)).2 = true ∧ (∀ h403 : Hp, h403 = sL h393 (hR h393 x0 32) x1.toNatClampNeg (120 : Int64) → (if x2 = (123 : Int32) then Ca d m_Mo_sumFields [.ref x0, .int x1] h403 (QV (fun h404 => Wp (d + 1) m_Mo_measure 208 [some (.ref x0), some (.int x1), some (.int x2), some (.int x3), y4, some (.long x5), none, some (.long (0 : Int64)), none, y9] [] h404 (QV K))) else Wp (d + 1) m_Mo_measure 208 [some (.ref x0), some (.int x1), some (.int x2), some (.int x3), y4, some (.long x5), none, some (.long (0 : Int64)), none, y9] [] h403 (QV K)))))) else ((hS h0 (hR h393 x0 31)).1 = 21 ∧ (ainr x1 (hS h0 (hR h393 x0 31)).2 = true ∧ ((hS h0 (hR h393 x0 32)).1 = 21 ∧ (¬ (hR h393 x0 32) = 1 ∧ (ainr x1 (hS h0 (hR h393 x0 32)).2 = true ∧ (∀ h411 : Hp, h411 = sL h393 (hR h393 x0 32) x1.toNatClampNeg (hL h393 (hR h393 x0 31) x1.toNatClampNeg) → (if x2 = (123 : Int32) then Ca d m_Mo_sumFields [.ref x0, .int x1] h411 (QV (fun h412 => Wp (d + 1) m_Mo_measure 208 [some (.ref x0), some (.int x1), some (.int x2), some (.int x3), y4, some (.long x5), none, some (.long (0 : Int64)), none, y9] [] h412 (QV K))) else Wp (d + 1) m_Mo_measure 208 [some (.ref x0), some (.int x1), some (.int x2), some (.int x3), y4, some (.long x5), none, some (.long (0 : Int64)), none, y9] [] h411 (QV K)))))))))))))) else (if x2 = (112 : Int32) then ((hS h0 (hR h0 x0 13)).1 = 20 ∧ (ainr x1 (hS h0 (hR h0 x0 13)).2 = true ∧ ((hS h0 (hR h0 x0 31)).1 = 21 ∧ (¬ (hR h0 x0 31) = 1 ∧ (ainr x1 (hS h0 (hR h0 x0 31)).2 = true ∧ (∀ h419 : Hp, h419 = sL h0 (hR h0 x0 31) x1.toNatClampNeg ((((hI h0 (hR h0 x0 13) x1.toNatClampNeg) + (7 : Int32)) / (8 : Int32)).toInt64) → (if x2 = (122 : Int32) then ((hS h0 (hR h419 x0 32)).1 = 21 ∧ (¬ (hR h419 x0 32) = 1 ∧ (ainr x1 (hS h0 (hR h419 x0 32)).2 = true ∧ (∀ h423 : Hp, h423 = sL h419 (hR h419 x0 32) x1.toNatClampNeg (21 : Int64) → (if x2 = (123 : Int32) then Ca d m_Mo_sumFields [.ref x0, .int x1] h423 (QV (fun h424 => Wp (d + 1) m_Mo_measure 208 [some (.ref x0), some (.int x1), some (.int x2), some (.int x3), y4, some (.long x5), none, some (.long (0 : Int64)), none, y9] [] h424 (QV K))) else Wp (d + 1) m_Mo_measure 208 [some (.ref x0), some (.int x1), some (.int x2), some (.int x3), y4, some (.long x5), none, some (.long (0 : Int64)), none, y9] [] h423 (QV K)))))) else (if x2 = (114 : Int32) then ((hS h0 (hR h419 x0 32)).1 = 21 ∧ (¬ (hR h419 x0 32) = 1 ∧ (ainr x1 (hS h0 (hR h419 x0 32)).2 = true ∧ (∀ h429 : Hp, h429 = sL h419 (hR h419 x0 32) x1.toNatClampNeg (120 : Int64) → (if x2 = (123 : Int32) then Ca d m_Mo_sumFields [.ref x0, .int x1] h429 (QV (fun h430 => Wp (d + 1) m_Mo_measure 208 [some (.ref x0), some (.int x1), some (.int x2), some (.int x3), y4, some (.long x5), none, some (.long (0 : Int64)), none, y9] [] h430 (QV K))) else Wp (d + 1) m_Mo_measure 208 [some (.ref x0), some (.int x1), some (.int x2), some (.int x3), y4, some (.long x5), none, some (.long (0 : Int64)), none, y9] [] h429 (QV K)))))) else ((hS h0 (hR h419 x0 31)).1 = 21 ∧ (ainr x1 (hS h0 (hR h419 x0 31)).2 = true ∧ ((hS h0 (hR h419 x0 32)).1 = 21 ∧ (¬ (hR h419 x0 32) = 1 ∧ (ainr x1 (hS h0 (hR h419 x0 32)).2 = true ∧ (∀ h437 : Hp, h437 = sL h419 (hR h419 x0 32) x1.toNatClampNeg (hL h419 (hR h419 x0 31) x1.toNatClampNeg) → (if x2 = (123 : Int32) then Ca d m_Mo_sumFields [.ref x0, .int x1] h437 (QV (fun h438 => Wp (d + 1) m_Mo_measure 208 [some (.ref x0), some (.int x1), some (.int x2), some (.int x3), y4, some (.long x5), none, some (.long (0 : Int64)), none, y9] [] h438 (QV K))) else Wp (d + 1) m_Mo_measure 208 [some (.ref x0), some (.int x1), some (.int x2), some (.int x3), y4, some (.long x5), none, some (.long (0 : Int64)), none, y9] [] h437 (QV K)))))))))))))))) else ((hS h0 (hR h0 x0 13)).1 = 20 ∧ (ainr x1 (hS h0 (hR h0 x0 13)).2 = true ∧ ((hS h0 (hR h0 x0 31)).1 = 21 ∧ (¬ (hR h0 x0 31) = 1 ∧ (ainr x1 (hS h0 (hR h0 x0 31)).2 = true ∧ (∀ h445 : Hp, h445 = sL h0 (hR h0 x0 31) x1.toNatClampNeg ((hI h0 (hR h0 x0 13) x1.toNatClampNeg).toInt64) → (if x2 = (122 : Int32) then ((hS h0 (hR h445 x0 32)).1 = 21 ∧ (¬ (hR h445 x0 32) = 1 ∧ (ainr x1 (hS h0 (hR h445 x0 32)).2 = true ∧ (∀ h449 : Hp, h449 = sL h445 (hR h445 x0 32) x1.toNatClampNeg (21 : Int64) → (if x2 = (123 : Int32) then Ca d m_Mo_sumFields [.ref x0, .int x1] h449 (QV (fun h450 => Wp (d + 1) m_Mo_measure 208 [some (.ref x0), some (.int x1), some (.int x2), some (.int x3), y4, some (.long x5), none, some (.long (0 : Int64)), none, y9] [] h450 (QV K))) else Wp (d + 1) m_Mo_measure 208 [some (.ref x0), some (.int x1), some (.int x2), some (.int x3), y4, some (.long x5), none, some (.long (0 : Int64)), none, y9] [] h449 (QV K)))))) else (if x2 = (114 : Int32) then ((hS h0 (hR h445 x0 32)).1 = 21 ∧ (¬ (hR h445 x0 32) = 1 ∧ (ainr x1 (hS h0 (hR h445 x0 32)).2 = true ∧ (∀ h455 : Hp, h455 = sL h445 (hR h445 x0 32) x1.toNatClampNeg (120 : Int64) → (if x2 = (123 : Int32) then Ca d m_Mo_sumFields [.ref x0, .int x1] h455 (QV (fun h456 => Wp (d + 1) m_Mo_measure 208 [some (.ref x0), some (.int x1), some (.int x2), some (.int x3), y4, some (.long x5), none, some (.long (0 : Int64)), none, y9] [] h456 (QV K))) else Wp (d + 1) m_Mo_measure 208 [some (.ref x0), some (.int x1), some (.int x2), some (.int x3), y4, some (.long x5), none, some (.long (0 : Int64)), none, y9] [] h455 (QV K)))))) else ((hS h0 (hR h445 x0 31)).1 = 21 ∧ (ainr x1 (hS h0 (hR h445 x0 31)).2 = true ∧ ((hS h0 (hR h445 x0 32)).1 = 21 ∧ (¬ (hR h445 x0 32) = 1 ∧ (ainr x1 (hS h0 (hR h445 x0 32)).2 = true ∧ (∀ h463 : Hp, h463 = sL h445 (hR h445 x0 32) x1.toNatClampNeg (hL h445 (hR h445 x0 31) x1.toNatClampNeg) → (if x2 = (123 : Int32) then Ca d m_Mo_sumFields [.ref x0, .int x1] h463 (QV (fun h464 => Wp (d + 1) m_Mo_measure 208 [some (.ref x0), some (.int x1), some (.int x2), some (.int x3), y4, some (.long x5), none, some (.long (0 : Int64)), none, y9] [] h464 (QV K))) else Wp (d + 1) m_Mo_measure 208 [some (.ref x0), some (.int x1), some (.int x2), some (.int x3), y4, some (.long x5), none, some (.long (0 : Int64)), none, y9] [] h463 (QV K))))))))))))))))))))))) : Wp (d + 1) m_Mo_measure 69 [some (.ref x0), some (.int x1), some (.int x2), some (.int x3), y4, some (.long x5), none, y7, y8, y9] [] h0 (QV K) := by
  refine V.lconst (x := 0) d_Mo_measure_69 (by decide) ?_
  refine V.goto (t := 80) d_Mo_measure_70 ⟨rfl, rfl⟩ ?_
  refine V.lstore (l' := [_, _, _, _, _, _, _, _, _, _]) d_Mo_measure_80 rfl (ltb rfl) ?_
  refine V.aload_n d_Mo_measure_82 rfl ?_
  obtain ⟨g317, hq⟩ := hq
  refine V.get2 d_Mo_measure_83 rfl (List.mem_singleton.mpr g317) ?_
  refine V.iload_n d_Mo_measure_86 rfl ?_
  refine V.iload_n d_Mo_measure_87 rfl ?_
  refine V.bipush (x := 122) d_Mo_measure_88 (by decide) ?_
  refine V.ic_ne (t := 97) d_Mo_measure_90 ⟨rfl, rfl⟩ (fun hc => ?_) (fun hc => ?_)
  · replace hq := ifp hc hq
    refine V.lconst (x := 1) d_Mo_measure_93 (by decide) ?_
    refine V.goto (t := 160) d_Mo_measure_94 ⟨rfl, rfl⟩ ?_
    obtain ⟨g318, hq⟩ := hq
    obtain ⟨g319, hq⟩ := hq
    obtain ⟨g320, hq⟩ := hq
    refine V.lastore d_Mo_measure_160 g318 g319 g320 ?_
    replace hq := hq _ rfl
    refine V.aload_n d_Mo_measure_161 rfl ?_
    refine V.get2 d_Mo_measure_162 rfl (List.mem_singleton.mpr g317) ?_
    refine V.iload_n d_Mo_measure_165 rfl ?_
    refine V.iload_n d_Mo_measure_166 rfl ?_
    refine V.bipush (x := 122) d_Mo_measure_167 (by decide) ?_
    refine V.ic_ne (t := 178) d_Mo_measure_169 ⟨rfl, rfl⟩ (fun hc => ?_) (fun hc => ?_)
    · replace hq := ifp hc hq
      refine V.ldc2_w d_Mo_measure_172 rfl ?_
      refine V.goto (t := 196) d_Mo_measure_175 ⟨rfl, rfl⟩ ?_
      obtain ⟨g322, hq⟩ := hq
      obtain ⟨g323, hq⟩ := hq
      obtain ⟨g324, hq⟩ := hq
      refine V.lastore d_Mo_measure_196 g322 g323 g324 ?_
      replace hq := hq _ rfl
      refine V.iload_n d_Mo_measure_197 rfl ?_
      refine V.bipush (x := 123) d_Mo_measure_198 (by decide) ?_
      refine V.ic_ne (t := 208) d_Mo_measure_200 ⟨rfl, rfl⟩ (fun hc => ?_) (fun hc => ?_)
      · replace hq := ifp hc hq
        refine V.aload_n d_Mo_measure_203 rfl ?_
        refine V.iload_n d_Mo_measure_204 rfl ?_
        refine V.callV d_Mo_measure_205 (cV_call (t := [_]) (rs := []) rfl (Or.inl rfl) rfl (lk1 g317) ⟨leb rfl, leb rfl⟩) hq (fun h326 hq => ?_)
        exact hq
      · replace hq := ifn hc hq
        exact hq
    · replace hq := ifn hc hq
      refine V.iload_n d_Mo_measure_178 rfl ?_
      refine V.bipush (x := 114) d_Mo_measure_179 (by decide) ?_
      refine V.ic_ne (t := 190) d_Mo_measure_181 ⟨rfl, rfl⟩ (fun hc => ?_) (fun hc => ?_)
      · replace hq := ifp hc hq
        refine V.ldc2_w d_Mo_measure_184 rfl ?_
        refine V.goto (t := 196) d_Mo_measure_187 ⟨rfl, rfl⟩ ?_
        obtain ⟨g328, hq⟩ := hq
        obtain ⟨g329, hq⟩ := hq
        obtain ⟨g330, hq⟩ := hq
        refine V.lastore d_Mo_measure_196 g328 g329 g330 ?_
        replace hq := hq _ rfl
        refine V.iload_n d_Mo_measure_197 rfl ?_
        refine V.bipush (x := 123) d_Mo_measure_198 (by decide) ?_
        refine V.ic_ne (t := 208) d_Mo_measure_200 ⟨rfl, rfl⟩ (fun hc => ?_) (fun hc => ?_)
        · replace hq := ifp hc hq
          refine V.aload_n d_Mo_measure_203 rfl ?_
          refine V.iload_n d_Mo_measure_204 rfl ?_
          refine V.callV d_Mo_measure_205 (cV_call (t := [_]) (rs := []) rfl (Or.inl rfl) rfl (lk1 g317) ⟨leb rfl, leb rfl⟩) hq (fun h332 hq => ?_)
          exact hq
        · replace hq := ifn hc hq
          exact hq
      · replace hq := ifn hc hq
        refine V.aload_n d_Mo_measure_190 rfl ?_
        refine V.get2 d_Mo_measure_191 rfl (List.mem_singleton.mpr g317) ?_
        refine V.iload_n d_Mo_measure_194 rfl ?_
        obtain ⟨g334, hq⟩ := hq
        obtain ⟨g335, hq⟩ := hq
        refine V.laload d_Mo_measure_195 g334 g335 ?_
        obtain ⟨g336, hq⟩ := hq
        obtain ⟨g337, hq⟩ := hq
        obtain ⟨g338, hq⟩ := hq
        refine V.lastore d_Mo_measure_196 g336 g337 g338 ?_
        replace hq := hq _ rfl
        refine V.iload_n d_Mo_measure_197 rfl ?_
        refine V.bipush (x := 123) d_Mo_measure_198 (by decide) ?_
        refine V.ic_ne (t := 208) d_Mo_measure_200 ⟨rfl, rfl⟩ (fun hc => ?_) (fun hc => ?_)
        · replace hq := ifp hc hq
          refine V.aload_n d_Mo_measure_203 rfl ?_
          refine V.iload_n d_Mo_measure_204 rfl ?_
          refine V.callV d_Mo_measure_205 (cV_call (t := [_]) (rs := []) rfl (Or.inl rfl) rfl (lk1 g317) ⟨leb rfl, leb rfl⟩) hq (fun h340 hq => ?_)
          exact hq
        · replace hq := ifn hc hq
          exact hq
  · replace hq := ifn hc hq
    refine V.iload_n d_Mo_measure_97 rfl ?_
    refine V.bipush (x := 102) d_Mo_measure_98 (by decide) ?_
    refine V.ic_ne (t := 109) d_Mo_measure_100 ⟨rfl, rfl⟩ (fun hc => ?_) (fun hc => ?_)
    · replace hq := ifp hc hq
      refine V.ldc2_w d_Mo_measure_103 rfl ?_
      refine V.goto (t := 160) d_Mo_measure_106 ⟨rfl, rfl⟩ ?_
      obtain ⟨g342, hq⟩ := hq
      obtain ⟨g343, hq⟩ := hq
      obtain ⟨g344, hq⟩ := hq
      refine V.lastore d_Mo_measure_160 g342 g343 g344 ?_
      replace hq := hq _ rfl
      refine V.aload_n d_Mo_measure_161 rfl ?_
      refine V.get2 d_Mo_measure_162 rfl (List.mem_singleton.mpr g317) ?_
      refine V.iload_n d_Mo_measure_165 rfl ?_
      refine V.iload_n d_Mo_measure_166 rfl ?_
      refine V.bipush (x := 122) d_Mo_measure_167 (by decide) ?_
      refine V.ic_ne (t := 178) d_Mo_measure_169 ⟨rfl, rfl⟩ (fun hc => ?_) (fun hc => ?_)
      · replace hq := ifp hc hq
        refine V.ldc2_w d_Mo_measure_172 rfl ?_
        refine V.goto (t := 196) d_Mo_measure_175 ⟨rfl, rfl⟩ ?_
        obtain ⟨g346, hq⟩ := hq
        obtain ⟨g347, hq⟩ := hq
        obtain ⟨g348, hq⟩ := hq
        refine V.lastore d_Mo_measure_196 g346 g347 g348 ?_
        replace hq := hq _ rfl
        refine V.iload_n d_Mo_measure_197 rfl ?_
        refine V.bipush (x := 123) d_Mo_measure_198 (by decide) ?_
        refine V.ic_ne (t := 208) d_Mo_measure_200 ⟨rfl, rfl⟩ (fun hc => ?_) (fun hc => ?_)
        · replace hq := ifp hc hq
          refine V.aload_n d_Mo_measure_203 rfl ?_
          refine V.iload_n d_Mo_measure_204 rfl ?_
          refine V.callV d_Mo_measure_205 (cV_call (t := [_]) (rs := []) rfl (Or.inl rfl) rfl (lk1 g317) ⟨leb rfl, leb rfl⟩) hq (fun h350 hq => ?_)
          exact hq
        · replace hq := ifn hc hq
          exact hq
      · replace hq := ifn hc hq
        refine V.iload_n d_Mo_measure_178 rfl ?_
        refine V.bipush (x := 114) d_Mo_measure_179 (by decide) ?_
        refine V.ic_ne (t := 190) d_Mo_measure_181 ⟨rfl, rfl⟩ (fun hc => ?_) (fun hc => ?_)
        · replace hq := ifp hc hq
          refine V.ldc2_w d_Mo_measure_184 rfl ?_
          refine V.goto (t := 196) d_Mo_measure_187 ⟨rfl, rfl⟩ ?_
          obtain ⟨g352, hq⟩ := hq
          obtain ⟨g353, hq⟩ := hq
          obtain ⟨g354, hq⟩ := hq
          refine V.lastore d_Mo_measure_196 g352 g353 g354 ?_
          replace hq := hq _ rfl
          refine V.iload_n d_Mo_measure_197 rfl ?_
          refine V.bipush (x := 123) d_Mo_measure_198 (by decide) ?_
          refine V.ic_ne (t := 208) d_Mo_measure_200 ⟨rfl, rfl⟩ (fun hc => ?_) (fun hc => ?_)
          · replace hq := ifp hc hq
            refine V.aload_n d_Mo_measure_203 rfl ?_
            refine V.iload_n d_Mo_measure_204 rfl ?_
            refine V.callV d_Mo_measure_205 (cV_call (t := [_]) (rs := []) rfl (Or.inl rfl) rfl (lk1 g317) ⟨leb rfl, leb rfl⟩) hq (fun h356 hq => ?_)
            exact hq
          · replace hq := ifn hc hq
            exact hq
        · replace hq := ifn hc hq
          refine V.aload_n d_Mo_measure_190 rfl ?_
          refine V.get2 d_Mo_measure_191 rfl (List.mem_singleton.mpr g317) ?_
          refine V.iload_n d_Mo_measure_194 rfl ?_
          obtain ⟨g358, hq⟩ := hq
          obtain ⟨g359, hq⟩ := hq
          refine V.laload d_Mo_measure_195 g358 g359 ?_
          obtain ⟨g360, hq⟩ := hq
          obtain ⟨g361, hq⟩ := hq
          obtain ⟨g362, hq⟩ := hq
          refine V.lastore d_Mo_measure_196 g360 g361 g362 ?_
          replace hq := hq _ rfl
          refine V.iload_n d_Mo_measure_197 rfl ?_
          refine V.bipush (x := 123) d_Mo_measure_198 (by decide) ?_
          refine V.ic_ne (t := 208) d_Mo_measure_200 ⟨rfl, rfl⟩ (fun hc => ?_) (fun hc => ?_)
          · replace hq := ifp hc hq
            refine V.aload_n d_Mo_measure_203 rfl ?_
            refine V.iload_n d_Mo_measure_204 rfl ?_
            refine V.callV d_Mo_measure_205 (cV_call (t := [_]) (rs := []) rfl (Or.inl rfl) rfl (lk1 g317) ⟨leb rfl, leb rfl⟩) hq (fun h364 hq => ?_)
            exact hq
          · replace hq := ifn hc hq
            exact hq
    · replace hq := ifn hc hq
      refine V.iload_n d_Mo_measure_109 rfl ?_
      refine V.bipush (x := 100) d_Mo_measure_110 (by decide) ?_
      refine V.ic_ne (t := 121) d_Mo_measure_112 ⟨rfl, rfl⟩ (fun hc => ?_) (fun hc => ?_)
      · replace hq := ifp hc hq
        refine V.ldc2_w d_Mo_measure_115 rfl ?_
        refine V.goto (t := 160) d_Mo_measure_118 ⟨rfl, rfl⟩ ?_
        obtain ⟨g366, hq⟩ := hq
        obtain ⟨g367, hq⟩ := hq
        obtain ⟨g368, hq⟩ := hq
        refine V.lastore d_Mo_measure_160 g366 g367 g368 ?_
        replace hq := hq _ rfl
        refine V.aload_n d_Mo_measure_161 rfl ?_
        refine V.get2 d_Mo_measure_162 rfl (List.mem_singleton.mpr g317) ?_
        refine V.iload_n d_Mo_measure_165 rfl ?_
        refine V.iload_n d_Mo_measure_166 rfl ?_
        refine V.bipush (x := 122) d_Mo_measure_167 (by decide) ?_
        refine V.ic_ne (t := 178) d_Mo_measure_169 ⟨rfl, rfl⟩ (fun hc => ?_) (fun hc => ?_)
        · replace hq := ifp hc hq
          refine V.ldc2_w d_Mo_measure_172 rfl ?_
          refine V.goto (t := 196) d_Mo_measure_175 ⟨rfl, rfl⟩ ?_
          obtain ⟨g370, hq⟩ := hq
          obtain ⟨g371, hq⟩ := hq
          obtain ⟨g372, hq⟩ := hq
          refine V.lastore d_Mo_measure_196 g370 g371 g372 ?_
          replace hq := hq _ rfl
          refine V.iload_n d_Mo_measure_197 rfl ?_
          refine V.bipush (x := 123) d_Mo_measure_198 (by decide) ?_
          refine V.ic_ne (t := 208) d_Mo_measure_200 ⟨rfl, rfl⟩ (fun hc => ?_) (fun hc => ?_)
          · replace hq := ifp hc hq
            refine V.aload_n d_Mo_measure_203 rfl ?_
            refine V.iload_n d_Mo_measure_204 rfl ?_
            refine V.callV d_Mo_measure_205 (cV_call (t := [_]) (rs := []) rfl (Or.inl rfl) rfl (lk1 g317) ⟨leb rfl, leb rfl⟩) hq (fun h374 hq => ?_)
            exact hq
          · replace hq := ifn hc hq
            exact hq
        · replace hq := ifn hc hq
          refine V.iload_n d_Mo_measure_178 rfl ?_
          refine V.bipush (x := 114) d_Mo_measure_179 (by decide) ?_
          refine V.ic_ne (t := 190) d_Mo_measure_181 ⟨rfl, rfl⟩ (fun hc => ?_) (fun hc => ?_)
          · replace hq := ifp hc hq
            refine V.ldc2_w d_Mo_measure_184 rfl ?_
            refine V.goto (t := 196) d_Mo_measure_187 ⟨rfl, rfl⟩ ?_
            obtain ⟨g376, hq⟩ := hq
            obtain ⟨g377, hq⟩ := hq
            obtain ⟨g378, hq⟩ := hq
            refine V.lastore d_Mo_measure_196 g376 g377 g378 ?_
            replace hq := hq _ rfl
            refine V.iload_n d_Mo_measure_197 rfl ?_
            refine V.bipush (x := 123) d_Mo_measure_198 (by decide) ?_
            refine V.ic_ne (t := 208) d_Mo_measure_200 ⟨rfl, rfl⟩ (fun hc => ?_) (fun hc => ?_)
            · replace hq := ifp hc hq
              refine V.aload_n d_Mo_measure_203 rfl ?_
              refine V.iload_n d_Mo_measure_204 rfl ?_
              refine V.callV d_Mo_measure_205 (cV_call (t := [_]) (rs := []) rfl (Or.inl rfl) rfl (lk1 g317) ⟨leb rfl, leb rfl⟩) hq (fun h380 hq => ?_)
              exact hq
            · replace hq := ifn hc hq
              exact hq
          · replace hq := ifn hc hq
            refine V.aload_n d_Mo_measure_190 rfl ?_
            refine V.get2 d_Mo_measure_191 rfl (List.mem_singleton.mpr g317) ?_
            refine V.iload_n d_Mo_measure_194 rfl ?_
            obtain ⟨g382, hq⟩ := hq
            obtain ⟨g383, hq⟩ := hq
            refine V.laload d_Mo_measure_195 g382 g383 ?_
            obtain ⟨g384, hq⟩ := hq
            obtain ⟨g385, hq⟩ := hq
            obtain ⟨g386, hq⟩ := hq
            refine V.lastore d_Mo_measure_196 g384 g385 g386 ?_
            replace hq := hq _ rfl
            refine V.iload_n d_Mo_measure_197 rfl ?_
            refine V.bipush (x := 123) d_Mo_measure_198 (by decide) ?_
            refine V.ic_ne (t := 208) d_Mo_measure_200 ⟨rfl, rfl⟩ (fun hc => ?_) (fun hc => ?_)
            · replace hq := ifp hc hq
              refine V.aload_n d_Mo_measure_203 rfl ?_
              refine V.iload_n d_Mo_measure_204 rfl ?_
              refine V.callV d_Mo_measure_205 (cV_call (t := [_]) (rs := []) rfl (Or.inl rfl) rfl (lk1 g317) ⟨leb rfl, leb rfl⟩) hq (fun h388 hq => ?_)
              exact hq
            · replace hq := ifn hc hq
              exact hq
      · replace hq := ifn hc hq
        refine V.iload_n d_Mo_measure_121 rfl ?_
        refine V.bipush (x := 114) d_Mo_measure_122 (by decide) ?_
        refine V.ic_ne (t := 131) d_Mo_measure_124 ⟨rfl, rfl⟩ (fun hc => ?_) (fun hc => ?_)
        · replace hq := ifp hc hq
          refine V.lconst (x := 0) d_Mo_measure_127 (by decide) ?_
          refine V.goto (t := 160) d_Mo_measure_128 ⟨rfl, rfl⟩ ?_
          obtain ⟨g390, hq⟩ := hq
          obtain ⟨g391, hq⟩ := hq
          obtain ⟨g392, hq⟩ := hq
          refine V.lastore d_Mo_measure_160 g390 g391 g392 ?_
          replace hq := hq _ rfl
          refine V.aload_n d_Mo_measure_161 rfl ?_
          refine V.get2 d_Mo_measure_162 rfl (List.mem_singleton.mpr g317) ?_
          refine V.iload_n d_Mo_measure_165 rfl ?_
          refine V.iload_n d_Mo_measure_166 rfl ?_
          refine V.bipush (x := 122) d_Mo_measure_167 (by decide) ?_
          refine V.ic_ne (t := 178) d_Mo_measure_169 ⟨rfl, rfl⟩ (fun hc => ?_) (fun hc => ?_)
          · replace hq := ifp hc hq
            refine V.ldc2_w d_Mo_measure_172 rfl ?_
            refine V.goto (t := 196) d_Mo_measure_175 ⟨rfl, rfl⟩ ?_
            obtain ⟨g394, hq⟩ := hq
            obtain ⟨g395, hq⟩ := hq
            obtain ⟨g396, hq⟩ := hq
            refine V.lastore d_Mo_measure_196 g394 g395 g396 ?_
            replace hq := hq _ rfl
            refine V.iload_n d_Mo_measure_197 rfl ?_
            refine V.bipush (x := 123) d_Mo_measure_198 (by decide) ?_
            refine V.ic_ne (t := 208) d_Mo_measure_200 ⟨rfl, rfl⟩ (fun hc => ?_) (fun hc => ?_)
            · replace hq := ifp hc hq
              refine V.aload_n d_Mo_measure_203 rfl ?_
              refine V.iload_n d_Mo_measure_204 rfl ?_
              refine V.callV d_Mo_measure_205 (cV_call (t := [_]) (rs := []) rfl (Or.inl rfl) rfl (lk1 g317) ⟨leb rfl, leb rfl⟩) hq (fun h398 hq => ?_)
              exact hq
            · replace hq := ifn hc hq
              exact hq
          · replace hq := ifn hc hq
            refine V.iload_n d_Mo_measure_178 rfl ?_
            refine V.bipush (x := 114) d_Mo_measure_179 (by decide) ?_
            refine V.ic_ne (t := 190) d_Mo_measure_181 ⟨rfl, rfl⟩ (fun hc => ?_) (fun hc => ?_)
            · replace hq := ifp hc hq
              refine V.ldc2_w d_Mo_measure_184 rfl ?_
              refine V.goto (t := 196) d_Mo_measure_187 ⟨rfl, rfl⟩ ?_
              obtain ⟨g400, hq⟩ := hq
              obtain ⟨g401, hq⟩ := hq
              obtain ⟨g402, hq⟩ := hq
              refine V.lastore d_Mo_measure_196 g400 g401 g402 ?_
              replace hq := hq _ rfl
              refine V.iload_n d_Mo_measure_197 rfl ?_
              refine V.bipush (x := 123) d_Mo_measure_198 (by decide) ?_
              refine V.ic_ne (t := 208) d_Mo_measure_200 ⟨rfl, rfl⟩ (fun hc => ?_) (fun hc => ?_)
              · replace hq := ifp hc hq
                refine V.aload_n d_Mo_measure_203 rfl ?_
                refine V.iload_n d_Mo_measure_204 rfl ?_
                refine V.callV d_Mo_measure_205 (cV_call (t := [_]) (rs := []) rfl (Or.inl rfl) rfl (lk1 g317) ⟨leb rfl, leb rfl⟩) hq (fun h404 hq => ?_)
                exact hq
              · replace hq := ifn hc hq
                exact hq
            · replace hq := ifn hc hq
              refine V.aload_n d_Mo_measure_190 rfl ?_
              refine V.get2 d_Mo_measure_191 rfl (List.mem_singleton.mpr g317) ?_
              refine V.iload_n d_Mo_measure_194 rfl ?_
              obtain ⟨g406, hq⟩ := hq
              obtain ⟨g407, hq⟩ := hq
              refine V.laload d_Mo_measure_195 g406 g407 ?_
              obtain ⟨g408, hq⟩ := hq
              obtain ⟨g409, hq⟩ := hq
              obtain ⟨g410, hq⟩ := hq
              refine V.lastore d_Mo_measure_196 g408 g409 g410 ?_
              replace hq := hq _ rfl
              refine V.iload_n d_Mo_measure_197 rfl ?_
              refine V.bipush (x := 123) d_Mo_measure_198 (by decide) ?_
              refine V.ic_ne (t := 208) d_Mo_measure_200 ⟨rfl, rfl⟩ (fun hc => ?_) (fun hc => ?_)
              · replace hq := ifp hc hq
                refine V.aload_n d_Mo_measure_203 rfl ?_
                refine V.iload_n d_Mo_measure_204 rfl ?_
                refine V.callV d_Mo_measure_205 (cV_call (t := [_]) (rs := []) rfl (Or.inl rfl) rfl (lk1 g317) ⟨leb rfl, leb rfl⟩) hq (fun h412 hq => ?_)
                exact hq
              · replace hq := ifn hc hq
                exact hq
        · replace hq := ifn hc hq
          refine V.iload_n d_Mo_measure_131 rfl ?_
          refine V.bipush (x := 112) d_Mo_measure_132 (by decide) ?_
          refine V.ic_ne (t := 153) d_Mo_measure_134 ⟨rfl, rfl⟩ (fun hc => ?_) (fun hc => ?_)
          · replace hq := ifp hc hq
            refine V.aload_n d_Mo_measure_137 rfl ?_
            refine V.get2 d_Mo_measure_138 rfl (List.mem_singleton.mpr g317) ?_
            refine V.iload_n d_Mo_measure_141 rfl ?_
            obtain ⟨g414, hq⟩ := hq
            obtain ⟨g415, hq⟩ := hq
            refine V.iaload d_Mo_measure_142 g414 g415 ?_
            refine V.bipush (x := 7) d_Mo_measure_143 (by decide) ?_
            refine V.iadd d_Mo_measure_145 ?_
            refine V.bipush (x := 8) d_Mo_measure_146 (by decide) ?_
            refine V.idiv d_Mo_measure_148 (by decide) ?_
            refine V.i2l d_Mo_measure_149 ?_
            refine V.goto (t := 160) d_Mo_measure_150 ⟨rfl, rfl⟩ ?_
            obtain ⟨g416, hq⟩ := hq
            obtain ⟨g417, hq⟩ := hq
            obtain ⟨g418, hq⟩ := hq
            refine V.lastore d_Mo_measure_160 g416 g417 g418 ?_
            replace hq := hq _ rfl
            refine V.aload_n d_Mo_measure_161 rfl ?_
            refine V.get2 d_Mo_measure_162 rfl (List.mem_singleton.mpr g317) ?_
            refine V.iload_n d_Mo_measure_165 rfl ?_
            refine V.iload_n d_Mo_measure_166 rfl ?_
            refine V.bipush (x := 122) d_Mo_measure_167 (by decide) ?_
            refine V.ic_ne (t := 178) d_Mo_measure_169 ⟨rfl, rfl⟩ (fun hc => ?_) (fun hc => ?_)
            · replace hq := ifp hc hq
              refine V.ldc2_w d_Mo_measure_172 rfl ?_
              refine V.goto (t := 196) d_Mo_measure_175 ⟨rfl, rfl⟩ ?_
              obtain ⟨g420, hq⟩ := hq
              obtain ⟨g421, hq⟩ := hq
              obtain ⟨g422, hq⟩ := hq
              refine V.lastore d_Mo_measure_196 g420 g421 g422 ?_
              replace hq := hq _ rfl
              refine V.iload_n d_Mo_measure_197 rfl ?_
              refine V.bipush (x := 123) d_Mo_measure_198 (by decide) ?_
              refine V.ic_ne (t := 208) d_Mo_measure_200 ⟨rfl, rfl⟩ (fun hc => ?_) (fun hc => ?_)
              · replace hq := ifp hc hq
                refine V.aload_n d_Mo_measure_203 rfl ?_
                refine V.iload_n d_Mo_measure_204 rfl ?_
                refine V.callV d_Mo_measure_205 (cV_call (t := [_]) (rs := []) rfl (Or.inl rfl) rfl (lk1 g317) ⟨leb rfl, leb rfl⟩) hq (fun h424 hq => ?_)
                exact hq
              · replace hq := ifn hc hq
                exact hq
            · replace hq := ifn hc hq
              refine V.iload_n d_Mo_measure_178 rfl ?_
              refine V.bipush (x := 114) d_Mo_measure_179 (by decide) ?_
              refine V.ic_ne (t := 190) d_Mo_measure_181 ⟨rfl, rfl⟩ (fun hc => ?_) (fun hc => ?_)
              · replace hq := ifp hc hq
                refine V.ldc2_w d_Mo_measure_184 rfl ?_
                refine V.goto (t := 196) d_Mo_measure_187 ⟨rfl, rfl⟩ ?_
                obtain ⟨g426, hq⟩ := hq
                obtain ⟨g427, hq⟩ := hq
                obtain ⟨g428, hq⟩ := hq
                refine V.lastore d_Mo_measure_196 g426 g427 g428 ?_
                replace hq := hq _ rfl
                refine V.iload_n d_Mo_measure_197 rfl ?_
                refine V.bipush (x := 123) d_Mo_measure_198 (by decide) ?_
                refine V.ic_ne (t := 208) d_Mo_measure_200 ⟨rfl, rfl⟩ (fun hc => ?_) (fun hc => ?_)
                · replace hq := ifp hc hq
                  refine V.aload_n d_Mo_measure_203 rfl ?_
                  refine V.iload_n d_Mo_measure_204 rfl ?_
                  refine V.callV d_Mo_measure_205 (cV_call (t := [_]) (rs := []) rfl (Or.inl rfl) rfl (lk1 g317) ⟨leb rfl, leb rfl⟩) hq (fun h430 hq => ?_)
                  exact hq
                · replace hq := ifn hc hq
                  exact hq
              · replace hq := ifn hc hq
                refine V.aload_n d_Mo_measure_190 rfl ?_
                refine V.get2 d_Mo_measure_191 rfl (List.mem_singleton.mpr g317) ?_
                refine V.iload_n d_Mo_measure_194 rfl ?_
                obtain ⟨g432, hq⟩ := hq
                obtain ⟨g433, hq⟩ := hq
                refine V.laload d_Mo_measure_195 g432 g433 ?_
                obtain ⟨g434, hq⟩ := hq
                obtain ⟨g435, hq⟩ := hq
                obtain ⟨g436, hq⟩ := hq
                refine V.lastore d_Mo_measure_196 g434 g435 g436 ?_
                replace hq := hq _ rfl
                refine V.iload_n d_Mo_measure_197 rfl ?_
                refine V.bipush (x := 123) d_Mo_measure_198 (by decide) ?_
                refine V.ic_ne (t := 208) d_Mo_measure_200 ⟨rfl, rfl⟩ (fun hc => ?_) (fun hc => ?_)
                · replace hq := ifp hc hq
                  refine V.aload_n d_Mo_measure_203 rfl ?_
                  refine V.iload_n d_Mo_measure_204 rfl ?_
                  refine V.callV d_Mo_measure_205 (cV_call (t := [_]) (rs := []) rfl (Or.inl rfl) rfl (lk1 g317) ⟨leb rfl, leb rfl⟩) hq (fun h438 hq => ?_)
                  exact hq
                · replace hq := ifn hc hq
                  exact hq
          · replace hq := ifn hc hq
            refine V.aload_n d_Mo_measure_153 rfl ?_
            refine V.get2 d_Mo_measure_154 rfl (List.mem_singleton.mpr g317) ?_
            refine V.iload_n d_Mo_measure_157 rfl ?_
            obtain ⟨g440, hq⟩ := hq
            obtain ⟨g441, hq⟩ := hq
            refine V.iaload d_Mo_measure_158 g440 g441 ?_
            refine V.i2l d_Mo_measure_159 ?_
            obtain ⟨g442, hq⟩ := hq
            obtain ⟨g443, hq⟩ := hq
            obtain ⟨g444, hq⟩ := hq
            refine V.lastore d_Mo_measure_160 g442 g443 g444 ?_
            replace hq := hq _ rfl
            refine V.aload_n d_Mo_measure_161 rfl ?_
            refine V.get2 d_Mo_measure_162 rfl (List.mem_singleton.mpr g317) ?_
            refine V.iload_n d_Mo_measure_165 rfl ?_
            refine V.iload_n d_Mo_measure_166 rfl ?_
            refine V.bipush (x := 122) d_Mo_measure_167 (by decide) ?_
            refine V.ic_ne (t := 178) d_Mo_measure_169 ⟨rfl, rfl⟩ (fun hc => ?_) (fun hc => ?_)
            · replace hq := ifp hc hq
              refine V.ldc2_w d_Mo_measure_172 rfl ?_
              refine V.goto (t := 196) d_Mo_measure_175 ⟨rfl, rfl⟩ ?_
              obtain ⟨g446, hq⟩ := hq
              obtain ⟨g447, hq⟩ := hq
              obtain ⟨g448, hq⟩ := hq
              refine V.lastore d_Mo_measure_196 g446 g447 g448 ?_
              replace hq := hq _ rfl
              refine V.iload_n d_Mo_measure_197 rfl ?_
              refine V.bipush (x := 123) d_Mo_measure_198 (by decide) ?_
              refine V.ic_ne (t := 208) d_Mo_measure_200 ⟨rfl, rfl⟩ (fun hc => ?_) (fun hc => ?_)
              · replace hq := ifp hc hq
                refine V.aload_n d_Mo_measure_203 rfl ?_
                refine V.iload_n d_Mo_measure_204 rfl ?_
                refine V.callV d_Mo_measure_205 (cV_call (t := [_]) (rs := []) rfl (Or.inl rfl) rfl (lk1 g317) ⟨leb rfl, leb rfl⟩) hq (fun h450 hq => ?_)
                exact hq
              · replace hq := ifn hc hq
                exact hq
            · replace hq := ifn hc hq
              refine V.iload_n d_Mo_measure_178 rfl ?_
              refine V.bipush (x := 114) d_Mo_measure_179 (by decide) ?_
              refine V.ic_ne (t := 190) d_Mo_measure_181 ⟨rfl, rfl⟩ (fun hc => ?_) (fun hc => ?_)
              · replace hq := ifp hc hq
                refine V.ldc2_w d_Mo_measure_184 rfl ?_
                refine V.goto (t := 196) d_Mo_measure_187 ⟨rfl, rfl⟩ ?_
                obtain ⟨g452, hq⟩ := hq
                obtain ⟨g453, hq⟩ := hq
                obtain ⟨g454, hq⟩ := hq
                refine V.lastore d_Mo_measure_196 g452 g453 g454 ?_
                replace hq := hq _ rfl
                refine V.iload_n d_Mo_measure_197 rfl ?_
                refine V.bipush (x := 123) d_Mo_measure_198 (by decide) ?_
                refine V.ic_ne (t := 208) d_Mo_measure_200 ⟨rfl, rfl⟩ (fun hc => ?_) (fun hc => ?_)
                · replace hq := ifp hc hq
                  refine V.aload_n d_Mo_measure_203 rfl ?_
                  refine V.iload_n d_Mo_measure_204 rfl ?_
                  refine V.callV d_Mo_measure_205 (cV_call (t := [_]) (rs := []) rfl (Or.inl rfl) rfl (lk1 g317) ⟨leb rfl, leb rfl⟩) hq (fun h456 hq => ?_)
                  exact hq
                · replace hq := ifn hc hq
                  exact hq
              · replace hq := ifn hc hq
                refine V.aload_n d_Mo_measure_190 rfl ?_
                refine V.get2 d_Mo_measure_191 rfl (List.mem_singleton.mpr g317) ?_
                refine V.iload_n d_Mo_measure_194 rfl ?_
                obtain ⟨g458, hq⟩ := hq
                obtain ⟨g459, hq⟩ := hq
                refine V.laload d_Mo_measure_195 g458 g459 ?_
                obtain ⟨g460, hq⟩ := hq
                obtain ⟨g461, hq⟩ := hq
                obtain ⟨g462, hq⟩ := hq
                refine V.lastore d_Mo_measure_196 g460 g461 g462 ?_
                replace hq := hq _ rfl
                refine V.iload_n d_Mo_measure_197 rfl ?_
                refine V.bipush (x := 123) d_Mo_measure_198 (by decide) ?_
                refine V.ic_ne (t := 208) d_Mo_measure_200 ⟨rfl, rfl⟩ (fun hc => ?_) (fun hc => ?_)
                · replace hq := ifp hc hq
                  refine V.aload_n d_Mo_measure_203 rfl ?_
                  refine V.iload_n d_Mo_measure_204 rfl ?_
                  refine V.callV d_Mo_measure_205 (cV_call (t := [_]) (rs := []) rfl (Or.inl rfl) rfl (lk1 g317) ⟨leb rfl, leb rfl⟩) hq (fun h464 hq => ?_)
                  exact hq
                · replace hq := ifn hc hq
                  exact hq
theorem w_Mo_measure_208 {d : Nat} {K : Hp → Prop} {x0 : Nat} {x1 : Int32} {x2 : Int32} {x3 : Int32} {y4 : Option Value} {x5 : Int64} {x7 : Int64} {y9 : Option Value} {h0 : Hp} (hq :
  (if x2 = (42 : Int32) then ((hS h0 x0).1 = 8 ∧ ((hS h0 (hR h0 x0 31)).1 = 21 ∧ (ainr x3 (hS h0 (hR h0 x0 31)).2 = true ∧ (¬ (hR h0 x0 31) = 1 ∧ (ainr x1 (hS h0 (hR h0 x0 31)).2 = true ∧ (∀ h471 : Hp, h471 = sL h0 (hR h0 x0 31) x1.toNatClampNeg (x5 * (hL h0 (hR h0 x0 31) x3.toNatClampNeg)) → ((hS h0 (hR h471 x0 32)).1 = 21 ∧ (ainr x3 (hS h0 (hR h471 x0 32)).2 = true ∧ (¬ (hR h471 x0 32) = 1 ∧ (ainr x1 (hS h0 (hR h471 x0 32)).2 = true ∧ (∀ h476 : Hp, h476 = sL h471 (hR h471 x0 32) x1.toNatClampNeg (x7 * (hL h471 (hR h471 x0 32) x3.toNatClampNeg)) → (if x2 = (47 : Int32) then ((hS h0 (hR h476 x0 31)).1 = 21 ∧ (¬ (hR h476 x0 31) = 1 ∧ (ainr x1 (hS h0 (hR h476 x0 31)).2 = true ∧ (∀ h480 : Hp, h480 = sL h476 (hR h476 x0 31) x1.toNatClampNeg x5 → ((hS h0 (hR h480 x0 32)).1 = 21 ∧ (¬ (hR h480 x0 32) = 1 ∧ (ainr x1 (hS h0 (hR h480 x0 32)).2 = true ∧ (∀ h484 : Hp, h484 = sL h480 (hR h480 x0 32) x1.toNatClampNeg x7 → Wp (d + 1) m_Mo_measure 266 [some (.ref x0), some (.int x1), some (.int x2), some (.int x3), y4, some (.long x5), none, some (.long x7), none, y9] [] h484 (QV K))))))))) else Wp (d + 1) m_Mo_measure 266 [some (.ref x0), some (.int x1), some (.int x2), some (.int x3), y4, some (.long x5), none, some (.long x7), none, y9] [] h476 (QV K))))))))))))) else (if x2 = (47 : Int32) then ((hS h0 x0).1 = 8 ∧ ((hS h0 (hR h0 x0 31)).1 = 21 ∧ (¬ (hR h0 x0 31) = 1 ∧ (ainr x1 (hS h0 (hR h0 x0 31)).2 = true ∧ (∀ h489 : Hp, h489 = sL h0 (hR h0 x0 31) x1.toNatClampNeg x5 → ((hS h0 (hR h489 x0 32)).1 = 21 ∧ (¬ (hR h489 x0 32) = 1 ∧ (ainr x1 (hS h0 (hR h489 x0 32)).2 = true ∧ (∀ h493 : Hp, h493 = sL h489 (hR h489 x0 32) x1.toNatClampNeg x7 → Wp (d + 1) m_Mo_measure 266 [some (.ref x0), some (.int x1), some (.int x2), some (.int x3), y4, some (.long x5), none, some (.long x7), none, y9] [] h493 (QV K)))))))))) else Wp (d + 1) m_Mo_measure 266 [some (.ref x0), some (.int x1), some (.int x2), some (.int x3), y4, some (.long x5), none, some (.long x7), none, y9] [] h0 (QV K)))) : Wp (d + 1) m_Mo_measure 208 [some (.ref x0), some (.int x1), some (.int x2), some (.int x3), y4, some (.long x5), none, some (.long x7), none, y9] [] h0 (QV K) := by
  refine V.iload_n d_Mo_measure_208 rfl ?_
  refine V.bipush (x := 42) d_Mo_measure_209 (by decide) ?_
  refine V.ic_ne (t := 244) d_Mo_measure_211 ⟨rfl, rfl⟩ (fun hc => ?_) (fun hc => ?_)
  · replace hq := ifp hc hq
    refine V.aload_n d_Mo_measure_214 rfl ?_
    obtain ⟨g466, hq⟩ := hq
    refine V.get2 d_Mo_measure_215 rfl (List.mem_singleton.mpr g466) ?_
    refine V.iload_n d_Mo_measure_218 rfl ?_
    refine V.lload d_Mo_measure_219 rfl ?_
    refine V.aload_n d_Mo_measure_221 rfl ?_
    refine V.get2 d_Mo_measure_222 rfl (List.mem_singleton.mpr g466) ?_
    refine V.iload_n d_Mo_measure_225 rfl ?_
    obtain ⟨g467, hq⟩ := hq
    obtain ⟨g468, hq⟩ := hq
    refine V.laload d_Mo_measure_226 g467 g468 ?_
    refine V.lmul d_Mo_measure_227 ?_
    obtain ⟨g469, hq⟩ := hq
    obtain ⟨g470, hq⟩ := hq
    refine V.lastore d_Mo_measure_228 g467 g469 g470 ?_
    replace hq := hq _ rfl
    refine V.aload_n d_Mo_measure_229 rfl ?_
    refine V.get2 d_Mo_measure_230 rfl (List.mem_singleton.mpr g466) ?_
    refine V.iload_n d_Mo_measure_233 rfl ?_
    refine V.lload d_Mo_measure_234 rfl ?_
    refine V.aload_n d_Mo_measure_236 rfl ?_
    refine V.get2 d_Mo_measure_237 rfl (List.mem_singleton.mpr g466) ?_
    refine V.iload_n d_Mo_measure_240 rfl ?_
    obtain ⟨g472, hq⟩ := hq
    obtain ⟨g473, hq⟩ := hq
    refine V.laload d_Mo_measure_241 g472 g473 ?_
    refine V.lmul d_Mo_measure_242 ?_
    obtain ⟨g474, hq⟩ := hq
    obtain ⟨g475, hq⟩ := hq
    refine V.lastore d_Mo_measure_243 g472 g474 g475 ?_
    replace hq := hq _ rfl
    refine V.iload_n d_Mo_measure_244 rfl ?_
    refine V.bipush (x := 47) d_Mo_measure_245 (by decide) ?_
    refine V.ic_ne (t := 266) d_Mo_measure_247 ⟨rfl, rfl⟩ (fun hc => ?_) (fun hc => ?_)
    · replace hq := ifp hc hq
      refine V.aload_n d_Mo_measure_250 rfl ?_
      refine V.get2 d_Mo_measure_251 rfl (List.mem_singleton.mpr g466) ?_
      refine V.iload_n d_Mo_measure_254 rfl ?_
      refine V.lload d_Mo_measure_255 rfl ?_
      obtain ⟨g477, hq⟩ := hq
      obtain ⟨g478, hq⟩ := hq
      obtain ⟨g479, hq⟩ := hq
      refine V.lastore d_Mo_measure_257 g477 g478 g479 ?_
      replace hq := hq _ rfl
      refine V.aload_n d_Mo_measure_258 rfl ?_
      refine V.get2 d_Mo_measure_259 rfl (List.mem_singleton.mpr g466) ?_
      refine V.iload_n d_Mo_measure_262 rfl ?_
      refine V.lload d_Mo_measure_263 rfl ?_
      obtain ⟨g481, hq⟩ := hq
      obtain ⟨g482, hq⟩ := hq
      obtain ⟨g483, hq⟩ := hq
      refine V.lastore d_Mo_measure_265 g481 g482 g483 ?_
      replace hq := hq _ rfl
      exact hq
    · replace hq := ifn hc hq
      exact hq
  · replace hq := ifn hc hq
    refine V.iload_n d_Mo_measure_244 rfl ?_
    refine V.bipush (x := 47) d_Mo_measure_245 (by decide) ?_
    refine V.ic_ne (t := 266) d_Mo_measure_247 ⟨rfl, rfl⟩ (fun hc => ?_) (fun hc => ?_)
    · replace hq := ifp hc hq
      refine V.aload_n d_Mo_measure_250 rfl ?_
      obtain ⟨g485, hq⟩ := hq
      refine V.get2 d_Mo_measure_251 rfl (List.mem_singleton.mpr g485) ?_
      refine V.iload_n d_Mo_measure_254 rfl ?_
      refine V.lload d_Mo_measure_255 rfl ?_
      obtain ⟨g486, hq⟩ := hq
      obtain ⟨g487, hq⟩ := hq
      obtain ⟨g488, hq⟩ := hq
      refine V.lastore d_Mo_measure_257 g486 g487 g488 ?_
      replace hq := hq _ rfl
      refine V.aload_n d_Mo_measure_258 rfl ?_
      refine V.get2 d_Mo_measure_259 rfl (List.mem_singleton.mpr g485) ?_
      refine V.iload_n d_Mo_measure_262 rfl ?_
      refine V.lload d_Mo_measure_263 rfl ?_
      obtain ⟨g490, hq⟩ := hq
      obtain ⟨g491, hq⟩ := hq
      obtain ⟨g492, hq⟩ := hq
      refine V.lastore d_Mo_measure_265 g490 g491 g492 ?_
      replace hq := hq _ rfl
      exact hq
    · replace hq := ifn hc hq
      exact hq
theorem w_Mo_measure_266 {d : Nat} {K : Hp → Prop} {x0 : Nat} {x1 : Int32} {x2 : Int32} {x3 : Int32} {y4 : Option Value} {y5 : Option Value} {y6 : Option Value} {y7 : Option Value} {y8 : Option Value} {y9 : Option Value} {h0 : Hp} (hq :
  (if x2 = (63 : Int32) then ((hS h0 x0).1 = 8 ∧ ((hS h0 (hR h0 x0 31)).1 = 21 ∧ (ainr x3 (hS h0 (hR h0 x0 31)).2 = true ∧ (¬ (hR h0 x0 31) = 1 ∧ (ainr x1 (hS h0 (hR h0 x0 31)).2 = true ∧ (∀ h499 : Hp, h499 = sL h0 (hR h0 x0 31) x1.toNatClampNeg (hL h0 (hR h0 x0 31) x3.toNatClampNeg) → ((hS h0 (hR h499 x0 32)).1 = 21 ∧ (ainr x3 (hS h0 (hR h499 x0 32)).2 = true ∧ (¬ (hR h499 x0 32) = 1 ∧ (ainr x1 (hS h0 (hR h499 x0 32)).2 = true ∧ (∀ h504 : Hp, h504 = sL h499 (hR h499 x0 32) x1.toNatClampNeg (hL h499 (hR h499 x0 32) x3.toNatClampNeg) → ((hS h0 (hR h504 x0 21)).1 = 20 ∧ (ainr x3 (hS h0 (hR h504 x0 21)).2 = true ∧ (∀ v507 : Int32, v507 = (hI h504 (hR h504 x0 21) x3.toNatClampNeg) → Wp (d + 1) m_Mo_measure 304 [some (.ref x0), some (.int x1), some (.int x2), some (.int x3), y4, y5, y6, y7, (yk y8), some (.int v507)] [] h504 (QV K))))))))))))))) else Wp (d + 1) m_Mo_measure 399 [some (.ref x0), some (.int x1), some (.int x2), some (.int x3), y4, y5, y6, y7, y8, y9] [] h0 (QV K))) : Wp (d + 1) m_Mo_measure 266 [some (.ref x0), some (.int x1), some (.int x2), some (.int x3), y4, y5, y6, y7, y8, y9] [] h0 (QV K) := by
  refine V.iload_n d_Mo_measure_266 rfl ?_
  refine V.bipush (x := 63) d_Mo_measure_267 (by decide) ?_
  refine V.ic_ne (t := 399) d_Mo_measure_269 ⟨rfl, rfl⟩ (fun hc => ?_) (fun hc => ?_)
  · replace hq := ifp hc hq
    refine V.aload_n d_Mo_measure_272 rfl ?_
    obtain ⟨g494, hq⟩ := hq
    refine V.get2 d_Mo_measure_273 rfl (List.mem_singleton.mpr g494) ?_
    refine V.iload_n d_Mo_measure_276 rfl ?_
    refine V.aload_n d_Mo_measure_277 rfl ?_
    refine V.get2 d_Mo_measure_278 rfl (List.mem_singleton.mpr g494) ?_
    refine V.iload_n d_Mo_measure_281 rfl ?_
    obtain ⟨g495, hq⟩ := hq
    obtain ⟨g496, hq⟩ := hq
    refine V.laload d_Mo_measure_282 g495 g496 ?_
    obtain ⟨g497, hq⟩ := hq
    obtain ⟨g498, hq⟩ := hq
    refine V.lastore d_Mo_measure_283 g495 g497 g498 ?_
    replace hq := hq _ rfl
    refine V.aload_n d_Mo_measure_284 rfl ?_
    refine V.get2 d_Mo_measure_285 rfl (List.mem_singleton.mpr g494) ?_
    refine V.iload_n d_Mo_measure_288 rfl ?_
    refine V.aload_n d_Mo_measure_289 rfl ?_
    refine V.get2 d_Mo_measure_290 rfl (List.mem_singleton.mpr g494) ?_
    refine V.iload_n d_Mo_measure_293 rfl ?_
    obtain ⟨g500, hq⟩ := hq
    obtain ⟨g501, hq⟩ := hq
    refine V.laload d_Mo_measure_294 g500 g501 ?_
    obtain ⟨g502, hq⟩ := hq
    obtain ⟨g503, hq⟩ := hq
    refine V.lastore d_Mo_measure_295 g500 g502 g503 ?_
    replace hq := hq _ rfl
    refine V.aload_n d_Mo_measure_296 rfl ?_
    refine V.get2 d_Mo_measure_297 rfl (List.mem_singleton.mpr g494) ?_
    refine V.iload_n d_Mo_measure_300 rfl ?_
    obtain ⟨g505, hq⟩ := hq
    obtain ⟨g506, hq⟩ := hq
    refine V.iaload d_Mo_measure_301 g505 g506 ?_
    replace hq := hq _ rfl
    refine V.istore (l' := [_, _, _, _, _, _, _, _, _, _]) d_Mo_measure_302 ((st1_alt (ltb rfl)).trans rfl) (ltb rfl) ?_
    exact hq
  · replace hq := ifn hc hq
    exact hq
set_option maxRecDepth 100000 in
theorem w_Mo_measure_304 {d : Nat} {K : Hp → Prop} {x0 : Nat} {x1 : Int32} {y2 : Option Value} {y3 : Option Value} {y4 : Option Value} {y5 : Option Value} {y6 : Option Value} {y7 : Option Value} {y8 : Option Value} {x9 : Int32} {h0 : Hp} (hq :
  (if x9 < 0 then Wp (d + 1) m_Mo_measure 399 [some (.ref x0), some (.int x1), y2, y3, y4, y5, y6, y7, y8, some (.int x9)] [] h0 (QV K) else ((hS h0 x0).1 = 8 ∧ ((hS h0 (hR h0 x0 31)).1 = 21 ∧ (ainr x9 (hS h0 (hR h0 x0 31)).2 = true ∧ (ainr x1 (hS h0 (hR h0 x0 31)).2 = true ∧ (if (hL h0 (hR h0 x0 31) x9.toNatClampNeg) < (hL h0 (hR h0 x0 31) x1.toNatClampNeg) then (¬ (hR h0 x0 31) = 1 ∧ (∀ h513 : Hp, h513 = sL h0 (hR h0 x0 31) x1.toNatClampNeg (hL h0 (hR h0 x0 31) x9.toNatClampNeg) → ((hS h0 (hR h513 x0 32)).1 = 21 ∧ (ainr x9 (hS h0 (hR h513 x0 32)).2 = true ∧ (ainr x1 (hS h0 (hR h513 x0 32)).2 = true ∧ (if (hL h513 (hR h513 x0 32) x1.toNatClampNeg) < (hL h513 (hR h513 x0 32) x9.toNatClampNeg) then (¬ (hR h513 x0 32) = 1 ∧ (∀ h518 : Hp, h518 = sL h513 (hR h513 x0 32) x1.toNatClampNeg (hL h513 (hR h513 x0 32) x9.toNatClampNeg) → ((hS h0 (hR h518 x0 21)).1 = 20 ∧ (ainr x9 (hS h0 (hR h518 x0 21)).2 = true ∧ (∀ v521 : Int32, v521 = (hI h518 (hR h518 x0 21) x9.toNatClampNeg) → Wp (d + 1) m_Mo_measure 304 [some (.ref x0), some (.int x1), y2, y3, y4, y5, y6, y7, (yk y8), some (.int v521)] [] h518 (QV K)))))) else (¬ (hR h513 x0 32) = 1 ∧ (∀ h523 : Hp, h523 = sL h513 (hR h513 x0 32) x1.toNatClampNeg (hL h513 (hR h513 x0 32) x1.toNatClampNeg) → ((hS h0 (hR h523 x0 21)).1 = 20 ∧ (ainr x9 (hS h0 (hR h523 x0 21)).2 = true ∧ (∀ v526 : Int32, v526 = (hI h523 (hR h523 x0 21) x9.toNatClampNeg) → Wp (d + 1) m_Mo_measure 304 [some (.ref x0), some (.int x1), y2, y3, y4, y5, y6, y7, (yk y8), some (.int v526)] [] h523 (QV K)))))))))))) else (¬ (hR h0 x0 31) = 1 ∧ (∀ h528 : Hp, h528 = sL h0 (hR h0 x0 31) x1.toNatClampNeg (hL h0 (hR h0 x0 31) x1.toNatClampNeg) → ((hS h0 (hR h528 x0 32)).1 = 21 ∧ (ainr x9 (hS h0 (hR h528 x0 32)).2 = true ∧ (ainr x1 (hS h0 (hR h528 x0 32)).2 = true ∧ (if (hL h528 (hR h528 x0 32) x1.toNatClampNeg) < (hL h528 (hR h528 x0 32) x9.toNatClampNeg) then (¬ (hR h528 x0 32) = 1 ∧ (∀ h533 : Hp, h533 = sL h528 (hR h528 x0 32) x1.toNatClampNeg (hL h528 (hR h528 x0 32) x9.toNatClampNeg) → ((hS h0 (hR h533 x0 21)).1 = 20 ∧ (ainr x9 (hS h0 (hR h533 x0 21)).2 = true ∧ (∀ v536 : Int32, v536 = (hI h533 (hR h533 x0 21) x9.toNatClampNeg) → Wp (d + 1) m_Mo_measure 304 [some (.ref x0), some (.int x1), y2, y3, y4, y5, y6, y7, (yk y8), some (.int v536)] [] h533 (QV K)))))) else (¬ (hR h528 x0 32) = 1 ∧ (∀ h538 : Hp, h538 = sL h528 (hR h528 x0 32) x1.toNatClampNeg (hL h528 (hR h528 x0 32) x1.toNatClampNeg) → ((hS h0 (hR h538 x0 21)).1 = 20 ∧ (ainr x9 (hS h0 (hR h538 x0 21)).2 = true ∧ (∀ v541 : Int32, v541 = (hI h538 (hR h538 x0 21) x9.toNatClampNeg) → Wp (d + 1) m_Mo_measure 304 [some (.ref x0), some (.int x1), y2, y3, y4, y5, y6, y7, (yk y8), some (.int v541)] [] h538 (QV K))))))))))))))))))) : Wp (d + 1) m_Mo_measure 304 [some (.ref x0), some (.int x1), y2, y3, y4, y5, y6, y7, y8, some (.int x9)] [] h0 (QV K) := by
  refine V.iload d_Mo_measure_304 rfl ?_
  refine V.if_lt (t := 399) d_Mo_measure_306 ⟨rfl, rfl⟩ (fun hc => ?_) (fun hc => ?_)
  · replace hq := ifp hc hq
    exact hq
  · replace hq := ifn hc hq
    refine V.aload_n d_Mo_measure_309 rfl ?_
    obtain ⟨g508, hq⟩ := hq
    refine V.get2 d_Mo_measure_310 rfl (List.mem_singleton.mpr g508) ?_
    refine V.iload_n d_Mo_measure_313 rfl ?_
    refine V.aload_n d_Mo_measure_314 rfl ?_
    refine V.get2 d_Mo_measure_315 rfl (List.mem_singleton.mpr g508) ?_
    refine V.iload d_Mo_measure_318 rfl ?_
    obtain ⟨g509, hq⟩ := hq
    obtain ⟨g510, hq⟩ := hq
    refine V.laload d_Mo_measure_320 g509 g510 ?_
    refine V.aload_n d_Mo_measure_321 rfl ?_
    refine V.get2 d_Mo_measure_322 rfl (List.mem_singleton.mpr g508) ?_
    refine V.iload_n d_Mo_measure_325 rfl ?_
    obtain ⟨g511, hq⟩ := hq
    refine V.laload d_Mo_measure_326 g509 g511 ?_
    refine V.lc_ge d_Mo_measure_327 d_Mo_measure_328 ⟨rfl, rfl⟩ (fun hc => ?_) (fun hc => ?_)
    · replace hq := ifp hc hq
      refine V.aload_n d_Mo_measure_331 rfl ?_
      refine V.get2 d_Mo_measure_332 rfl (List.mem_singleton.mpr g508) ?_
      refine V.iload d_Mo_measure_335 rfl ?_
      refine V.laload d_Mo_measure_337 g509 g510 ?_
      refine V.goto (t := 347) d_Mo_measure_338 ⟨rfl, rfl⟩ ?_
      obtain ⟨g512, hq⟩ := hq
      refine V.lastore d_Mo_measure_347 g509 g512 g511 ?_
      replace hq := hq _ rfl
      refine V.aload_n d_Mo_measure_348 rfl ?_
      refine V.get2 d_Mo_measure_349 rfl (List.mem_singleton.mpr g508) ?_
      refine V.iload_n d_Mo_measure_352 rfl ?_
      refine V.aload_n d_Mo_measure_353 rfl ?_
      refine V.get2 d_Mo_measure_354 rfl (List.mem_singleton.mpr g508) ?_
      refine V.iload d_Mo_measure_357 rfl ?_
      obtain ⟨g514, hq⟩ := hq
      obtain ⟨g515, hq⟩ := hq
      refine V.laload d_Mo_measure_359 g514 g515 ?_
      refine V.aload_n d_Mo_measure_360 rfl ?_
      refine V.get2 d_Mo_measure_361 rfl (List.mem_singleton.mpr g508) ?_
      refine V.iload_n d_Mo_measure_364 rfl ?_
      obtain ⟨g516, hq⟩ := hq
      refine V.laload d_Mo_measure_365 g514 g516 ?_
      refine V.lc_le d_Mo_measure_366 d_Mo_measure_367 ⟨rfl, rfl⟩ (fun hc => ?_) (fun hc => ?_)
      · replace hq := ifp hc hq
        refine V.aload_n d_Mo_measure_370 rfl ?_
        refine V.get2 d_Mo_measure_371 rfl (List.mem_singleton.mpr g508) ?_
        refine V.iload d_Mo_measure_374 rfl ?_
        refine V.laload d_Mo_measure_376 g514 g515 ?_
        refine V.goto (t := 386) d_Mo_measure_377 ⟨rfl, rfl⟩ ?_
        obtain ⟨g517, hq⟩ := hq
        refine V.lastore d_Mo_measure_386 g514 g517 g516 ?_
        replace hq := hq _ rfl
        refine V.aload_n d_Mo_measure_387 rfl ?_
        refine V.get2 d_Mo_measure_388 rfl (List.mem_singleton.mpr g508) ?_
        refine V.iload d_Mo_measure_391 rfl ?_
        obtain ⟨g519, hq⟩ := hq
        obtain ⟨g520, hq⟩ := hq
        refine V.iaload d_Mo_measure_393 g519 g520 ?_
        replace hq := hq _ rfl
        refine V.istore (l' := [_, _, _, _, _, _, _, _, _, _]) d_Mo_measure_394 ((st1_alt (ltb rfl)).trans rfl) (ltb rfl) ?_
        refine V.goto (t := 304) d_Mo_measure_396 ⟨rfl, rfl⟩ ?_
        exact hq
      · replace hq := ifn hc hq
        refine V.aload_n d_Mo_measure_380 rfl ?_
        refine V.get2 d_Mo_measure_381 rfl (List.mem_singleton.mpr g508) ?_
        refine V.iload_n d_Mo_measure_384 rfl ?_
        refine V.laload d_Mo_measure_385 g514 g516 ?_
        obtain ⟨g522, hq⟩ := hq
        refine V.lastore d_Mo_measure_386 g514 g522 g516 ?_
        replace hq := hq _ rfl
        refine V.aload_n d_Mo_measure_387 rfl ?_
        refine V.get2 d_Mo_measure_388 rfl (List.mem_singleton.mpr g508) ?_
        refine V.iload d_Mo_measure_391 rfl ?_
        obtain ⟨g524, hq⟩ := hq
        obtain ⟨g525, hq⟩ := hq
        refine V.iaload d_Mo_measure_393 g524 g525 ?_
        replace hq := hq _ rfl
        refine V.istore (l' := [_, _, _, _, _, _, _, _, _, _]) d_Mo_measure_394 ((st1_alt (ltb rfl)).trans rfl) (ltb rfl) ?_
        refine V.goto (t := 304) d_Mo_measure_396 ⟨rfl, rfl⟩ ?_
        exact hq
    · replace hq := ifn hc hq
      refine V.aload_n d_Mo_measure_341 rfl ?_
      refine V.get2 d_Mo_measure_342 rfl (List.mem_singleton.mpr g508) ?_
      refine V.iload_n d_Mo_measure_345 rfl ?_
      refine V.laload d_Mo_measure_346 g509 g511 ?_
      obtain ⟨g527, hq⟩ := hq
      refine V.lastore d_Mo_measure_347 g509 g527 g511 ?_
      replace hq := hq _ rfl
      refine V.aload_n d_Mo_measure_348 rfl ?_
      refine V.get2 d_Mo_measure_349 rfl (List.mem_singleton.mpr g508) ?_
      refine V.iload_n d_Mo_measure_352 rfl ?_
      refine V.aload_n d_Mo_measure_353 rfl ?_
      refine V.get2 d_Mo_measure_354 rfl (List.mem_singleton.mpr g508) ?_
      refine V.iload d_Mo_measure_357 rfl ?_
      obtain ⟨g529, hq⟩ := hq
      obtain ⟨g530, hq⟩ := hq
      refine V.laload d_Mo_measure_359 g529 g530 ?_
      refine V.aload_n d_Mo_measure_360 rfl ?_
      refine V.get2 d_Mo_measure_361 rfl (List.mem_singleton.mpr g508) ?_
      refine V.iload_n d_Mo_measure_364 rfl ?_
      obtain ⟨g531, hq⟩ := hq
      refine V.laload d_Mo_measure_365 g529 g531 ?_
      refine V.lc_le d_Mo_measure_366 d_Mo_measure_367 ⟨rfl, rfl⟩ (fun hc => ?_) (fun hc => ?_)
      · replace hq := ifp hc hq
        refine V.aload_n d_Mo_measure_370 rfl ?_
        refine V.get2 d_Mo_measure_371 rfl (List.mem_singleton.mpr g508) ?_
        refine V.iload d_Mo_measure_374 rfl ?_
        refine V.laload d_Mo_measure_376 g529 g530 ?_
        refine V.goto (t := 386) d_Mo_measure_377 ⟨rfl, rfl⟩ ?_
        obtain ⟨g532, hq⟩ := hq
        refine V.lastore d_Mo_measure_386 g529 g532 g531 ?_
        replace hq := hq _ rfl
        refine V.aload_n d_Mo_measure_387 rfl ?_
        refine V.get2 d_Mo_measure_388 rfl (List.mem_singleton.mpr g508) ?_
        refine V.iload d_Mo_measure_391 rfl ?_
        obtain ⟨g534, hq⟩ := hq
        obtain ⟨g535, hq⟩ := hq
        refine V.iaload d_Mo_measure_393 g534 g535 ?_
        replace hq := hq _ rfl
        refine V.istore (l' := [_, _, _, _, _, _, _, _, _, _]) d_Mo_measure_394 ((st1_alt (ltb rfl)).trans rfl) (ltb rfl) ?_
        refine V.goto (t := 304) d_Mo_measure_396 ⟨rfl, rfl⟩ ?_
        exact hq
      · replace hq := ifn hc hq
        refine V.aload_n d_Mo_measure_380 rfl ?_
        refine V.get2 d_Mo_measure_381 rfl (List.mem_singleton.mpr g508) ?_
        refine V.iload_n d_Mo_measure_384 rfl ?_
        refine V.laload d_Mo_measure_385 g529 g531 ?_
        obtain ⟨g537, hq⟩ := hq
        refine V.lastore d_Mo_measure_386 g529 g537 g531 ?_
        replace hq := hq _ rfl
        refine V.aload_n d_Mo_measure_387 rfl ?_
        refine V.get2 d_Mo_measure_388 rfl (List.mem_singleton.mpr g508) ?_
        refine V.iload d_Mo_measure_391 rfl ?_
        obtain ⟨g539, hq⟩ := hq
        obtain ⟨g540, hq⟩ := hq
        refine V.iaload d_Mo_measure_393 g539 g540 ?_
        replace hq := hq _ rfl
        refine V.istore (l' := [_, _, _, _, _, _, _, _, _, _]) d_Mo_measure_394 ((st1_alt (ltb rfl)).trans rfl) (ltb rfl) ?_
        refine V.goto (t := 304) d_Mo_measure_396 ⟨rfl, rfl⟩ ?_
        exact hq
theorem w_Mo_measure_399 {d : Nat} {K : Hp → Prop} {x0 : Nat} {x1 : Int32} {y2 : Option Value} {y3 : Option Value} {y4 : Option Value} {y5 : Option Value} {y6 : Option Value} {y7 : Option Value} {y8 : Option Value} {y9 : Option Value} {h0 : Hp} (hq :
  ((hS h0 x0).1 = 8 ∧ ((hS h0 (hR h0 x0 31)).1 = 21 ∧ (ainr x1 (hS h0 (hR h0 x0 31)).2 = true ∧ Ca d m_Mo_capped [.ref x0, .long (hL h0 (hR h0 x0 31) x1.toNatClampNeg)] h0 (QL (fun v545 h546 => ((hS h546 (hR h0 x0 31)).1 = 21 ∧ (¬ (hR h0 x0 31) = 1 ∧ (ainr x1 (hS h546 (hR h0 x0 31)).2 = true ∧ (∀ h551 : Hp, h551 = sL h546 (hR h0 x0 31) x1.toNatClampNeg v545 → ((hS h546 x0).1 = 8 ∧ ((hS h546 (hR h551 x0 32)).1 = 21 ∧ (ainr x1 (hS h546 (hR h551 x0 32)).2 = true ∧ Ca d m_Mo_capped [.ref x0, .long (hL h551 (hR h551 x0 32) x1.toNatClampNeg)] h551 (QL (fun v555 h556 => ((hS h556 (hR h551 x0 32)).1 = 21 ∧ (¬ (hR h551 x0 32) = 1 ∧ (ainr x1 (hS h556 (hR h551 x0 32)).2 = true ∧ (∀ h561 : Hp, h561 = sL h556 (hR h551 x0 32) x1.toNatClampNeg v555 → K h561))))))))))))))))))) : Wp (d + 1) m_Mo_measure 399 [some (.ref x0), some (.int x1), y2, y3, y4, y5, y6, y7, y8, y9] [] h0 (QV K) := by
  refine V.aload_n d_Mo_measure_399 rfl ?_
  obtain ⟨g542, hq⟩ := hq
  refine V.get2 d_Mo_measure_400 rfl (List.mem_singleton.mpr g542) ?_
  refine V.iload_n d_Mo_measure_403 rfl ?_
  refine V.aload_n d_Mo_measure_404 rfl ?_
  refine V.aload_n d_Mo_measure_405 rfl ?_
  refine V.get2 d_Mo_measure_406 rfl (List.mem_singleton.mpr g542) ?_
  refine V.iload_n d_Mo_measure_409 rfl ?_
  obtain ⟨g543, hq⟩ := hq
  obtain ⟨g544, hq⟩ := hq
  refine V.laload d_Mo_measure_410 g543 g544 ?_
  refine V.callL d_Mo_measure_411 (cV_call (t := [_]) (rs := [_, _]) rfl (Or.inl rfl) rfl (lk1 g542) ⟨leb rfl, leb rfl⟩) hq (fun v545 h546 hq => ?_)
  obtain ⟨g548, hq⟩ := hq
  obtain ⟨g549, hq⟩ := hq
  obtain ⟨g550, hq⟩ := hq
  refine V.lastore d_Mo_measure_414 g548 g549 g550 ?_
  replace hq := hq _ rfl
  refine V.aload_n d_Mo_measure_415 rfl ?_
  obtain ⟨g552, hq⟩ := hq
  refine V.get2 d_Mo_measure_416 rfl (List.mem_singleton.mpr g552) ?_
  refine V.iload_n d_Mo_measure_419 rfl ?_
  refine V.aload_n d_Mo_measure_420 rfl ?_
  refine V.aload_n d_Mo_measure_421 rfl ?_
  refine V.get2 d_Mo_measure_422 rfl (List.mem_singleton.mpr g552) ?_
  refine V.iload_n d_Mo_measure_425 rfl ?_
  obtain ⟨g553, hq⟩ := hq
  obtain ⟨g554, hq⟩ := hq
  refine V.laload d_Mo_measure_426 g553 g554 ?_
  refine V.callL d_Mo_measure_427 (cV_call (t := [_]) (rs := [_, _]) rfl (Or.inl rfl) rfl (lk1 g552) ⟨leb rfl, leb rfl⟩) hq (fun v555 h556 hq => ?_)
  obtain ⟨g558, hq⟩ := hq
  obtain ⟨g559, hq⟩ := hq
  obtain ⟨g560, hq⟩ := hq
  refine V.lastore d_Mo_measure_430 g558 g559 g560 ?_
  replace hq := hq _ rfl
  refine V.vret d_Mo_measure_431 rfl ?_
  exact V.rV hq
theorem w_Mo_goodCases {d : Nat} {K : Int32 → Hp → Prop} {x0 : Nat} {x1 : Int32} {h0 : Hp} (hq :
  ((hS h0 x0).1 = 8 ∧ ((hS h0 (hR h0 x0 33)).1 = 20 ∧ (ainr x1 (hS h0 (hR h0 x0 33)).2 = true ∧ (∀ v4 : Int32, v4 = (hI h0 (hR h0 x0 33) x1.toNatClampNeg) → ((hS h0 (hR h0 x0 20)).1 = 20 ∧ (ainr x1 (hS h0 (hR h0 x0 20)).2 = true ∧ (∀ v7 : Int32, v7 = (hI h0 (hR h0 x0 20) x1.toNatClampNeg) → Wp d m_Mo_goodCases 14 [some (.ref x0), some (.int x1), some (.int v4), some (.int v7), none] [] h0 (QI K))))))))) : Ca d m_Mo_goodCases [.ref x0, .int x1] h0 (QI K) := by
  show Wp _ _ 0 [some (.ref x0), some (.int x1), none, none, none] [] h0 _
  refine V.aload_n d_Mo_goodCases_0 rfl ?_
  obtain ⟨g1, hq⟩ := hq
  refine V.get2 d_Mo_goodCases_1 rfl (List.mem_singleton.mpr g1) ?_
  refine V.iload_n d_Mo_goodCases_4 rfl ?_
  obtain ⟨g2, hq⟩ := hq
  obtain ⟨g3, hq⟩ := hq
  refine V.iaload d_Mo_goodCases_5 g2 g3 ?_
  replace hq := hq _ rfl
  refine V.istore_n (l' := [_, _, _, _, _]) d_Mo_goodCases_6 rfl (ltb rfl) ?_
  refine V.aload_n d_Mo_goodCases_7 rfl ?_
  refine V.get2 d_Mo_goodCases_8 rfl (List.mem_singleton.mpr g1) ?_
  refine V.iload_n d_Mo_goodCases_11 rfl ?_
  obtain ⟨g5, hq⟩ := hq
  obtain ⟨g6, hq⟩ := hq
  refine V.iaload d_Mo_goodCases_12 g5 g6 ?_
  replace hq := hq _ rfl
  refine V.istore_n (l' := [_, _, _, _, _]) d_Mo_goodCases_13 rfl (ltb rfl) ?_
  exact hq
theorem w_Mo_goodCases_14 {d : Nat} {K : Int32 → Hp → Prop} {x0 : Nat} {y1 : Option Value} {x2 : Int32} {x3 : Int32} {y4 : Option Value} {h0 : Hp} (hq :
  (if x3 < 0 then K (1 : Int32) h0 else ((hS h0 x0).1 = 8 ∧ ((hS h0 (hR h0 x0 18)).1 = 20 ∧ (ainr x3 (hS h0 (hR h0 x0 18)).2 = true ∧ ((hS h0 (hR h0 x0 29)).1 = 21 ∧ (ainr x2 (hS h0 (hR h0 x0 29)).2 = true ∧ (if ((hI h0 (hR h0 x0 18) x3.toNatClampNeg).toInt64) < (hL h0 (hR h0 x0 29) x2.toNatClampNeg) then K (0 : Int32) h0 else ((hS h0 (hR h0 x0 30)).1 = 21 ∧ (ainr x2 (hS h0 (hR h0 x0 30)).2 = true ∧ (if (hL h0 (hR h0 x0 30) x2.toNatClampNeg) < ((hI h0 (hR h0 x0 18) x3.toNatClampNeg).toInt64) then K (0 : Int32) h0 else ((hS h0 (hR h0 x0 21)).1 = 20 ∧ (ainr x3 (hS h0 (hR h0 x0 21)).2 = true ∧ (∀ v17 : Int32, v17 = (hI h0 (hR h0 x0 21) x3.toNatClampNeg) → Wp d m_Mo_goodCases 62 [some (.ref x0), y1, some (.int x2), some (.int x3), some (.int v17)] [] h0 (QI K))))))))))))))) : Wp d m_Mo_goodCases 14 [some (.ref x0), y1, some (.int x2), some (.int x3), y4] [] h0 (QI K) := by
  refine V.iload_n d_Mo_goodCases_14 rfl ?_
  refine V.if_lt (t := 107) d_Mo_goodCases_15 ⟨rfl, rfl⟩ (fun hc => ?_) (fun hc => ?_)
  · replace hq := ifp hc hq
    refine V.iconst (x := 1) d_Mo_goodCases_107 (by decide) ?_
    refine V.zret (y := (1 : Int32)) d_Mo_goodCases_108 rfl (by decide) ?_
    exact V.rI hq
  · replace hq := ifn hc hq
    refine V.aload_n d_Mo_goodCases_18 rfl ?_
    obtain ⟨g8, hq⟩ := hq
    refine V.get2 d_Mo_goodCases_19 rfl (List.mem_singleton.mpr g8) ?_
    refine V.iload_n d_Mo_goodCases_22 rfl ?_
    obtain ⟨g9, hq⟩ := hq
    obtain ⟨g10, hq⟩ := hq
    refine V.iaload d_Mo_goodCases_23 g9 g10 ?_
    refine V.i2l d_Mo_goodCases_24 ?_
    refine V.aload_n d_Mo_goodCases_25 rfl ?_
    refine V.get2 d_Mo_goodCases_26 rfl (List.mem_singleton.mpr g8) ?_
    refine V.iload_n d_Mo_goodCases_29 rfl ?_
    obtain ⟨g11, hq⟩ := hq
    obtain ⟨g12, hq⟩ := hq
    refine V.laload d_Mo_goodCases_30 g11 g12 ?_
    refine V.lc_lt d_Mo_goodCases_31 d_Mo_goodCases_32 ⟨rfl, rfl⟩ (fun hc => ?_) (fun hc => ?_)
    · replace hq := ifp hc hq
      refine V.iconst (x := 0) d_Mo_goodCases_52 (by decide) ?_
      refine V.zret (y := (0 : Int32)) d_Mo_goodCases_53 rfl (by decide) ?_
      exact V.rI hq
    · replace hq := ifn hc hq
      refine V.aload_n d_Mo_goodCases_35 rfl ?_
      refine V.get2 d_Mo_goodCases_36 rfl (List.mem_singleton.mpr g8) ?_
      refine V.iload_n d_Mo_goodCases_39 rfl ?_
      refine V.iaload d_Mo_goodCases_40 g9 g10 ?_
      refine V.i2l d_Mo_goodCases_41 ?_
      refine V.aload_n d_Mo_goodCases_42 rfl ?_
      refine V.get2 d_Mo_goodCases_43 rfl (List.mem_singleton.mpr g8) ?_
      refine V.iload_n d_Mo_goodCases_46 rfl ?_
      obtain ⟨g13, hq⟩ := hq
      obtain ⟨g14, hq⟩ := hq
      refine V.laload d_Mo_goodCases_47 g13 g14 ?_
      refine V.lc_le d_Mo_goodCases_48 d_Mo_goodCases_49 ⟨rfl, rfl⟩ (fun hc => ?_) (fun hc => ?_)
      · replace hq := ifp hc hq
        refine V.iconst (x := 0) d_Mo_goodCases_52 (by decide) ?_
        refine V.zret (y := (0 : Int32)) d_Mo_goodCases_53 rfl (by decide) ?_
        exact V.rI hq
      · replace hq := ifn hc hq
        refine V.aload_n d_Mo_goodCases_54 rfl ?_
        refine V.get2 d_Mo_goodCases_55 rfl (List.mem_singleton.mpr g8) ?_
        refine V.iload_n d_Mo_goodCases_58 rfl ?_
        obtain ⟨g15, hq⟩ := hq
        obtain ⟨g16, hq⟩ := hq
        refine V.iaload d_Mo_goodCases_59 g15 g16 ?_
        replace hq := hq _ rfl
        refine V.istore (l' := [_, _, _, _, _]) d_Mo_goodCases_60 rfl (ltb rfl) ?_
        exact hq
theorem w_Mo_goodCases_62 {d : Nat} {K : Int32 → Hp → Prop} {x0 : Nat} {y1 : Option Value} {x2 : Int32} {x3 : Int32} {x4 : Int32} {h0 : Hp} (hq :
  (if x4 < 0 then ((hS h0 x0).1 = 8 ∧ ((hS h0 (hR h0 x0 21)).1 = 20 ∧ (ainr x3 (hS h0 (hR h0 x0 21)).2 = true ∧ (∀ v21 : Int32, v21 = (hI h0 (hR h0 x0 21) x3.toNatClampNeg) → Wp d m_Mo_goodCases 14 [some (.ref x0), y1, some (.int x2), some (.int v21), some (.int x4)] [] h0 (QI K))))) else ((hS h0 x0).1 = 8 ∧ ((hS h0 (hR h0 x0 18)).1 = 20 ∧ (ainr x3 (hS h0 (hR h0 x0 18)).2 = true ∧ (ainr x4 (hS h0 (hR h0 x0 18)).2 = true ∧ (if (hI h0 (hR h0 x0 18) x3.toNatClampNeg) = (hI h0 (hR h0 x0 18) x4.toNatClampNeg) then K (0 : Int32) h0 else ((hS h0 (hR h0 x0 21)).1 = 20 ∧ (ainr x4 (hS h0 (hR h0 x0 21)).2 = true ∧ (∀ v28 : Int32, v28 = (hI h0 (hR h0 x0 21) x4.toNatClampNeg) → Wp d m_Mo_goodCases 62 [some (.ref x0), y1, some (.int x2), some (.int x3), some (.int v28)] [] h0 (QI K))))))))))) : Wp d m_Mo_goodCases 62 [some (.ref x0), y1, some (.int x2), some (.int x3), some (.int x4)] [] h0 (QI K) := by
  refine V.iload d_Mo_goodCases_62 rfl ?_
  refine V.if_lt (t := 97) d_Mo_goodCases_64 ⟨rfl, rfl⟩ (fun hc => ?_) (fun hc => ?_)
  · replace hq := ifp hc hq
    refine V.aload_n d_Mo_goodCases_97 rfl ?_
    obtain ⟨g18, hq⟩ := hq
    refine V.get2 d_Mo_goodCases_98 rfl (List.mem_singleton.mpr g18) ?_
    refine V.iload_n d_Mo_goodCases_101 rfl ?_
    obtain ⟨g19, hq⟩ := hq
    obtain ⟨g20, hq⟩ := hq
    refine V.iaload d_Mo_goodCases_102 g19 g20 ?_
    replace hq := hq _ rfl
    refine V.istore_n (l' := [_, _, _, _, _]) d_Mo_goodCases_103 rfl (ltb rfl) ?_
    refine V.goto (t := 14) d_Mo_goodCases_104 ⟨rfl, rfl⟩ ?_
    exact hq
  · replace hq := ifn hc hq
    refine V.aload_n d_Mo_goodCases_67 rfl ?_
    obtain ⟨g22, hq⟩ := hq
    refine V.get2 d_Mo_goodCases_68 rfl (List.mem_singleton.mpr g22) ?_
    refine V.iload_n d_Mo_goodCases_71 rfl ?_
    obtain ⟨g23, hq⟩ := hq
    obtain ⟨g24, hq⟩ := hq
    refine V.iaload d_Mo_goodCases_72 g23 g24 ?_
    refine V.aload_n d_Mo_goodCases_73 rfl ?_
    refine V.get2 d_Mo_goodCases_74 rfl (List.mem_singleton.mpr g22) ?_
    refine V.iload d_Mo_goodCases_77 rfl ?_
    obtain ⟨g25, hq⟩ := hq
    refine V.iaload d_Mo_goodCases_79 g23 g25 ?_
    refine V.ic_ne (t := 85) d_Mo_goodCases_80 ⟨rfl, rfl⟩ (fun hc => ?_) (fun hc => ?_)
    · replace hq := ifp hc hq
      refine V.iconst (x := 0) d_Mo_goodCases_83 (by decide) ?_
      refine V.zret (y := (0 : Int32)) d_Mo_goodCases_84 rfl (by decide) ?_
      exact V.rI hq
    · replace hq := ifn hc hq
      refine V.aload_n d_Mo_goodCases_85 rfl ?_
      refine V.get2 d_Mo_goodCases_86 rfl (List.mem_singleton.mpr g22) ?_
      refine V.iload d_Mo_goodCases_89 rfl ?_
      obtain ⟨g26, hq⟩ := hq
      obtain ⟨g27, hq⟩ := hq
      refine V.iaload d_Mo_goodCases_91 g26 g27 ?_
      replace hq := hq _ rfl
      refine V.istore (l' := [_, _, _, _, _]) d_Mo_goodCases_92 rfl (ltb rfl) ?_
      refine V.goto (t := 62) d_Mo_goodCases_94 ⟨rfl, rfl⟩ ?_
      exact hq
theorem w_Mo_soundNode {d : Nat} {K : Int32 → Hp → Prop} {x0 : Nat} {x1 : Int32} {h0 : Hp} (hq :
  ((hS h0 x0).1 = 8 ∧ ((hS h0 (hR h0 x0 12)).1 = 20 ∧ (ainr x1 (hS h0 (hR h0 x0 12)).2 = true ∧ (∀ v4 : Int32, v4 = (hI h0 (hR h0 x0 12) x1.toNatClampNeg) → ((hS h0 (hR h0 x0 19)).1 = 20 ∧ (ainr x1 (hS h0 (hR h0 x0 19)).2 = true ∧ (∀ v7 : Int32, v7 = (hI h0 (hR h0 x0 19) x1.toNatClampNeg) → ((hS h0 (hR h0 x0 32)).1 = 21 ∧ (ainr x1 (hS h0 (hR h0 x0 32)).2 = true ∧ (if (1000 : Int64) < (hL h0 (hR h0 x0 32) x1.toNatClampNeg) then K (0 : Int32) h0 else (if v4 = (112 : Int32) then (if v7 < 0 then K (0 : Int32) h0 else (ainr v7 (hS h0 (hR h0 x0 12)).2 = true ∧ (if (hI h0 (hR h0 x0 12) v7.toNatClampNeg) = (123 : Int32) then Wp (d + 1) m_Mo_soundNode 52 [some (.ref x0), some (.int x1), some (.int v4), some (.int v7)] [] h0 (QI K) else K (0 : Int32) h0))) else Wp (d + 1) m_Mo_soundNode 52 [some (.ref x0), some (.int x1), some (.int v4), some (.int v7)] [] h0 (QI K))))))))))))) : Ca (d + 1) m_Mo_soundNode [.ref x0, .int x1] h0 (QI K) := by
  show Wp _ _ 0 [some (.ref x0), some (.int x1), none, none] [] h0 _
  refine V.aload_n d_Mo_soundNode_0 rfl ?_
  obtain ⟨g1, hq⟩ := hq
  refine V.get2 d_Mo_soundNode_1 rfl (List.mem_singleton.mpr g1) ?_
  refine V.iload_n d_Mo_soundNode_4 rfl ?_
  obtain ⟨g2, hq⟩ := hq
  obtain ⟨g3, hq⟩ := hq
  refine V.iaload d_Mo_soundNode_5 g2 g3 ?_
  replace hq := hq _ rfl
  refine V.istore_n (l' := [_, _, _, _]) d_Mo_soundNode_6 rfl (ltb rfl) ?_
  refine V.aload_n d_Mo_soundNode_7 rfl ?_
  refine V.get2 d_Mo_soundNode_8 rfl (List.mem_singleton.mpr g1) ?_
  refine V.iload_n d_Mo_soundNode_11 rfl ?_
  obtain ⟨g5, hq⟩ := hq
  obtain ⟨g6, hq⟩ := hq
  refine V.iaload d_Mo_soundNode_12 g5 g6 ?_
  replace hq := hq _ rfl
  refine V.istore_n (l' := [_, _, _, _]) d_Mo_soundNode_13 rfl (ltb rfl) ?_
  refine V.aload_n d_Mo_soundNode_14 rfl ?_
  refine V.get2 d_Mo_soundNode_15 rfl (List.mem_singleton.mpr g1) ?_
  refine V.iload_n d_Mo_soundNode_18 rfl ?_
  obtain ⟨g8, hq⟩ := hq
  obtain ⟨g9, hq⟩ := hq
  refine V.laload d_Mo_soundNode_19 g8 g9 ?_
  refine V.ldc2_w d_Mo_soundNode_20 rfl ?_
  refine V.lc_le d_Mo_soundNode_23 d_Mo_soundNode_24 ⟨rfl, rfl⟩ (fun hc => ?_) (fun hc => ?_)
  · replace hq := ifp hc hq
    refine V.iconst (x := 0) d_Mo_soundNode_27 (by decide) ?_
    refine V.zret (y := (0 : Int32)) d_Mo_soundNode_28 rfl (by decide) ?_
    exact V.rI hq
  · replace hq := ifn hc hq
    refine V.iload_n d_Mo_soundNode_29 rfl ?_
    refine V.bipush (x := 112) d_Mo_soundNode_30 (by decide) ?_
    refine V.ic_ne (t := 52) d_Mo_soundNode_32 ⟨rfl, rfl⟩ (fun hc => ?_) (fun hc => ?_)
    · replace hq := ifp hc hq
      refine V.iload_n d_Mo_soundNode_35 rfl ?_
      refine V.if_lt (t := 50) d_Mo_soundNode_36 ⟨rfl, rfl⟩ (fun hc => ?_) (fun hc => ?_)
      · replace hq := ifp hc hq
        refine V.iconst (x := 0) d_Mo_soundNode_50 (by decide) ?_
        refine V.zret (y := (0 : Int32)) d_Mo_soundNode_51 rfl (by decide) ?_
        exact V.rI hq
      · replace hq := ifn hc hq
        refine V.aload_n d_Mo_soundNode_39 rfl ?_
        refine V.get2 d_Mo_soundNode_40 rfl (List.mem_singleton.mpr g1) ?_
        refine V.iload_n d_Mo_soundNode_43 rfl ?_
        obtain ⟨g10, hq⟩ := hq
        refine V.iaload d_Mo_soundNode_44 g2 g10 ?_
        refine V.bipush (x := 123) d_Mo_soundNode_45 (by decide) ?_
        refine V.ic_eq (t := 52) d_Mo_soundNode_47 ⟨rfl, rfl⟩ (fun hc => ?_) (fun hc => ?_)
        · replace hq := ifp hc hq
          exact hq
        · replace hq := ifn hc hq
          refine V.iconst (x := 0) d_Mo_soundNode_50 (by decide) ?_
          refine V.zret (y := (0 : Int32)) d_Mo_soundNode_51 rfl (by decide) ?_
          exact V.rI hq
    · replace hq := ifn hc hq
      exact hq
theorem w_Mo_soundNode_52 {d : Nat} {K : Int32 → Hp → Prop} {x0 : Nat} {x1 : Int32} {x2 : Int32} {x3 : Int32} {h0 : Hp} (hq :
  (if x2 = (114 : Int32) then (if x3 < 0 then Wp (d + 1) m_Mo_soundNode 88 [some (.ref x0), some (.int x1), some (.int x2), some (.int x3)] [] h0 (QI K) else (if 0 < x3 then K (0 : Int32) h0 else ((hS h0 x0).1 = 8 ∧ ((hS h0 (hR h0 x0 12)).1 = 20 ∧ (ainr (0 : Int32) (hS h0 (hR h0 x0 12)).2 = true ∧ (if (hI h0 (hR h0 x0 12) (0 : Int32).toNatClampNeg) = (123 : Int32) then ((hS h0 (hR h0 x0 21)).1 = 20 ∧ (ainr x1 (hS h0 (hR h0 x0 21)).2 = true ∧ (if (hI h0 (hR h0 x0 21) x1.toNatClampNeg) < 0 then Wp (d + 1) m_Mo_soundNode 88 [some (.ref x0), some (.int x1), some (.int x2), some (.int x3)] [] h0 (QI K) else K (0 : Int32) h0))) else K (0 : Int32) h0)))))) else Wp (d + 1) m_Mo_soundNode 88 [some (.ref x0), some (.int x1), some (.int x2), some (.int x3)] [] h0 (QI K))) : Wp (d + 1) m_Mo_soundNode 52 [some (.ref x0), some (.int x1), some (.int x2), some (.int x3)] [] h0 (QI K) := by
  refine V.iload_n d_Mo_soundNode_52 rfl ?_
  refine V.bipush (x := 114) d_Mo_soundNode_53 (by decide) ?_
  refine V.ic_ne (t := 88) d_Mo_soundNode_55 ⟨rfl, rfl⟩ (fun hc => ?_) (fun hc => ?_)
  · replace hq := ifp hc hq
    refine V.iload_n d_Mo_soundNode_58 rfl ?_
    refine V.if_lt (t := 88) d_Mo_soundNode_59 ⟨rfl, rfl⟩ (fun hc => ?_) (fun hc => ?_)
    · replace hq := ifp hc hq
      exact hq
    · replace hq := ifn hc hq
      refine V.iload_n d_Mo_soundNode_62 rfl ?_
      refine V.if_gt (t := 86) d_Mo_soundNode_63 ⟨rfl, rfl⟩ (fun hc => ?_) (fun hc => ?_)
      · replace hq := ifp hc hq
        refine V.iconst (x := 0) d_Mo_soundNode_86 (by decide) ?_
        refine V.zret (y := (0 : Int32)) d_Mo_soundNode_87 rfl (by decide) ?_
        exact V.rI hq
      · replace hq := ifn hc hq
        refine V.aload_n d_Mo_soundNode_66 rfl ?_
        obtain ⟨g11, hq⟩ := hq
        refine V.get2 d_Mo_soundNode_67 rfl (List.mem_singleton.mpr g11) ?_
        refine V.iconst (x := 0) d_Mo_soundNode_70 (by decide) ?_
        obtain ⟨g12, hq⟩ := hq
        obtain ⟨g13, hq⟩ := hq
        refine V.iaload d_Mo_soundNode_71 g12 g13 ?_
        refine V.bipush (x := 123) d_Mo_soundNode_72 (by decide) ?_
        refine V.ic_ne (t := 86) d_Mo_soundNode_74 ⟨rfl, rfl⟩ (fun hc => ?_) (fun hc => ?_)
        · replace hq := ifp hc hq
          refine V.aload_n d_Mo_soundNode_77 rfl ?_
          refine V.get2 d_Mo_soundNode_78 rfl (List.mem_singleton.mpr g11) ?_
          refine V.iload_n d_Mo_soundNode_81 rfl ?_
          obtain ⟨g14, hq⟩ := hq
          obtain ⟨g15, hq⟩ := hq
          refine V.iaload d_Mo_soundNode_82 g14 g15 ?_
          refine V.if_lt (t := 88) d_Mo_soundNode_83 ⟨rfl, rfl⟩ (fun hc => ?_) (fun hc => ?_)
          · replace hq := ifp hc hq
            exact hq
          · replace hq := ifn hc hq
            refine V.iconst (x := 0) d_Mo_soundNode_86 (by decide) ?_
            refine V.zret (y := (0 : Int32)) d_Mo_soundNode_87 rfl (by decide) ?_
            exact V.rI hq
        · replace hq := ifn hc hq
          refine V.iconst (x := 0) d_Mo_soundNode_86 (by decide) ?_
          refine V.zret (y := (0 : Int32)) d_Mo_soundNode_87 rfl (by decide) ?_
          exact V.rI hq
  · replace hq := ifn hc hq
    exact hq
theorem w_Mo_soundNode_88 {d : Nat} {K : Int32 → Hp → Prop} {x0 : Nat} {x1 : Int32} {x2 : Int32} {y3 : Option Value} {h0 : Hp} (hq :
  ((hS h0 x0).1 = 8 ∧ Ca d m_Mo_sized [.ref x0, .int x2] h0 (QI (fun v17 h18 => (if v17 = 0 then (if x2 = (42 : Int32) then Wp (d + 1) m_Mo_soundNode 138 [some (.ref x0), some (.int x1), some (.int x2), y3] [] h18 (QI K) else (if x2 = (47 : Int32) then Wp (d + 1) m_Mo_soundNode 138 [some (.ref x0), some (.int x1), some (.int x2), y3] [] h18 (QI K) else (if x2 = (63 : Int32) then Wp (d + 1) m_Mo_soundNode 138 [some (.ref x0), some (.int x1), some (.int x2), y3] [] h18 (QI K) else K (1 : Int32) h18))) else ((hS h18 x0).1 = 8 ∧ ((hS h18 (hR h18 x0 29)).1 = 21 ∧ (ainr x1 (hS h18 (hR h18 x0 29)).2 = true ∧ ((hS h18 (hR h18 x0 30)).1 = 21 ∧ (ainr x1 (hS h18 (hR h18 x0 30)).2 = true ∧ (if (hL h18 (hR h18 x0 30) x1.toNatClampNeg) < (hL h18 (hR h18 x0 29) x1.toNatClampNeg) then K (0 : Int32) h18 else K (1 : Int32) h18))))))))))) : Wp (d + 1) m_Mo_soundNode 88 [some (.ref x0), some (.int x1), some (.int x2), y3] [] h0 (QI K) := by
  refine V.aload_n d_Mo_soundNode_88 rfl ?_
  refine V.iload_n d_Mo_soundNode_89 rfl ?_
  obtain ⟨g16, hq⟩ := hq
  refine V.callI d_Mo_soundNode_90 (cV_call (t := [_]) (rs := []) rfl (Or.inl rfl) rfl (lk1 g16) ⟨leb rfl, leb rfl⟩) hq (fun v17 h18 hq => ?_)
  refine V.if_eq (t := 118) d_Mo_soundNode_93 ⟨rfl, rfl⟩ (fun hc => ?_) (fun hc => ?_)
  · replace hq := ifp hc hq
    refine V.iload_n d_Mo_soundNode_118 rfl ?_
    refine V.bipush (x := 42) d_Mo_soundNode_119 (by decide) ?_
    refine V.ic_eq (t := 138) d_Mo_soundNode_121 ⟨rfl, rfl⟩ (fun hc => ?_) (fun hc => ?_)
    · replace hq := ifp hc hq
      exact hq
    · replace hq := ifn hc hq
      refine V.iload_n d_Mo_soundNode_124 rfl ?_
      refine V.bipush (x := 47) d_Mo_soundNode_125 (by decide) ?_
      refine V.ic_eq (t := 138) d_Mo_soundNode_127 ⟨rfl, rfl⟩ (fun hc => ?_) (fun hc => ?_)
      · replace hq := ifp hc hq
        exact hq
      · replace hq := ifn hc hq
        refine V.iload_n d_Mo_soundNode_130 rfl ?_
        refine V.bipush (x := 63) d_Mo_soundNode_131 (by decide) ?_
        refine V.ic_eq (t := 138) d_Mo_soundNode_133 ⟨rfl, rfl⟩ (fun hc => ?_) (fun hc => ?_)
        · replace hq := ifp hc hq
          exact hq
        · replace hq := ifn hc hq
          refine V.iconst (x := 1) d_Mo_soundNode_136 (by decide) ?_
          refine V.zret (y := (1 : Int32)) d_Mo_soundNode_137 rfl (by decide) ?_
          exact V.rI hq
  · replace hq := ifn hc hq
    refine V.aload_n d_Mo_soundNode_96 rfl ?_
    obtain ⟨g20, hq⟩ := hq
    refine V.get2 d_Mo_soundNode_97 rfl (List.mem_singleton.mpr g20) ?_
    refine V.iload_n d_Mo_soundNode_100 rfl ?_
    obtain ⟨g21, hq⟩ := hq
    obtain ⟨g22, hq⟩ := hq
    refine V.laload d_Mo_soundNode_101 g21 g22 ?_
    refine V.aload_n d_Mo_soundNode_102 rfl ?_
    refine V.get2 d_Mo_soundNode_103 rfl (List.mem_singleton.mpr g20) ?_
    refine V.iload_n d_Mo_soundNode_106 rfl ?_
    obtain ⟨g23, hq⟩ := hq
    obtain ⟨g24, hq⟩ := hq
    refine V.laload d_Mo_soundNode_107 g23 g24 ?_
    refine V.lc_gt d_Mo_soundNode_108 d_Mo_soundNode_109 ⟨rfl, rfl⟩ (fun hc => ?_) (fun hc => ?_)
    · replace hq := ifp hc hq
      refine V.iconst (x := 0) d_Mo_soundNode_116 (by decide) ?_
      refine V.zret (y := (0 : Int32)) d_Mo_soundNode_117 rfl (by decide) ?_
      exact V.rI hq
    · replace hq := ifn hc hq
      refine V.iconst (x := 1) d_Mo_soundNode_112 (by decide) ?_
      refine V.goto (t := 117) d_Mo_soundNode_113 ⟨rfl, rfl⟩ ?_
      refine V.zret (y := (1 : Int32)) d_Mo_soundNode_117 rfl (by decide) ?_
      exact V.rI hq
theorem w_Mo_soundNode_138 {d : Nat} {K : Int32 → Hp → Prop} {x0 : Nat} {x1 : Int32} {x2 : Int32} {y3 : Option Value} {h0 : Hp} (hq :
  ((hS h0 x0).1 = 8 ∧ ((hS h0 (hR h0 x0 33)).1 = 20 ∧ (ainr x1 (hS h0 (hR h0 x0 33)).2 = true ∧ (if (hI h0 (hR h0 x0 33) x1.toNatClampNeg) < 0 then K (0 : Int32) h0 else (if x2 = (63 : Int32) then Ca d m_Mo_goodCases [.ref x0, .int x1] h0 (QI (fun v28 h29 => K (v28 &&& 1) h29)) else (if x2 = (42 : Int32) then ((hS h0 (hR h0 x0 20)).1 = 20 ∧ (ainr x1 (hS h0 (hR h0 x0 20)).2 = true ∧ ((hS h0 (hR h0 x0 32)).1 = 21 ∧ (ainr (hI h0 (hR h0 x0 20) x1.toNatClampNeg) (hS h0 (hR h0 x0 32)).2 = true ∧ (if (0 : Int64) < (hL h0 (hR h0 x0 32) (hI h0 (hR h0 x0 20) x1.toNatClampNeg).toNatClampNeg) then K (1 : Int32) h0 else K (0 : Int32) h0))))) else ((hS h0 (hR h0 x0 20)).1 = 20 ∧ (ainr x1 (hS h0 (hR h0 x0 20)).2 = true ∧ ((hS h0 (hR h0 x0 31)).1 = 21 ∧ (ainr (hI h0 (hR h0 x0 20) x1.toNatClampNeg) (hS h0 (hR h0 x0 31)).2 = true ∧ (if (0 : Int64) < (hL h0 (hR h0 x0 31) (hI h0 (hR h0 x0 20) x1.toNatClampNeg).toNatClampNeg) then K (1 : Int32) h0 else K (0 : Int32) h0)))))))))))) : Wp (d + 1) m_Mo_soundNode 138 [some (.ref x0), some (.int x1), some (.int x2), y3] [] h0 (QI K) := by
  refine V.aload_n d_Mo_soundNode_138 rfl ?_
  obtain ⟨g25, hq⟩ := hq
  refine V.get2 d_Mo_soundNode_139 rfl (List.mem_singleton.mpr g25) ?_
  refine V.iload_n d_Mo_soundNode_142 rfl ?_
  obtain ⟨g26, hq⟩ := hq
  obtain ⟨g27, hq⟩ := hq
  refine V.iaload d_Mo_soundNode_143 g26 g27 ?_
  refine V.if_ge (t := 149) d_Mo_soundNode_144 ⟨rfl, rfl⟩ (fun hc => ?_) (fun hc => ?_)
  · replace hq := ifp hc hq
    refine V.iconst (x := 0) d_Mo_soundNode_147 (by decide) ?_
    refine V.zret (y := (0 : Int32)) d_Mo_soundNode_148 rfl (by decide) ?_
    exact V.rI hq
  · replace hq := ifn hc hq
    refine V.iload_n d_Mo_soundNode_149 rfl ?_
    refine V.bipush (x := 63) d_Mo_soundNode_150 (by decide) ?_
    refine V.ic_ne (t := 161) d_Mo_soundNode_152 ⟨rfl, rfl⟩ (fun hc => ?_) (fun hc => ?_)
    · replace hq := ifp hc hq
      refine V.aload_n d_Mo_soundNode_155 rfl ?_
      refine V.iload_n d_Mo_soundNode_156 rfl ?_
      refine V.callI d_Mo_soundNode_157 (cV_call (t := [_]) (rs := []) rfl (Or.inl rfl) rfl (lk1 g25) ⟨leb rfl, leb rfl⟩) hq (fun v28 h29 hq => ?_)
      refine V.zret (y := _) d_Mo_soundNode_160 rfl rfl ?_
      exact V.rI hq
    · replace hq := ifn hc hq
      refine V.iload_n d_Mo_soundNode_161 rfl ?_
      refine V.bipush (x := 42) d_Mo_soundNode_162 (by decide) ?_
      refine V.ic_ne (t := 191) d_Mo_soundNode_164 ⟨rfl, rfl⟩ (fun hc => ?_) (fun hc => ?_)
      · replace hq := ifp hc hq
        refine V.aload_n d_Mo_soundNode_167 rfl ?_
        refine V.get2 d_Mo_soundNode_168 rfl (List.mem_singleton.mpr g25) ?_
        refine V.aload_n d_Mo_soundNode_171 rfl ?_
        refine V.get2 d_Mo_soundNode_172 rfl (List.mem_singleton.mpr g25) ?_
        refine V.iload_n d_Mo_soundNode_175 rfl ?_
        obtain ⟨g31, hq⟩ := hq
        obtain ⟨g32, hq⟩ := hq
        refine V.iaload d_Mo_soundNode_176 g31 g32 ?_
        obtain ⟨g33, hq⟩ := hq
        obtain ⟨g34, hq⟩ := hq
        refine V.laload d_Mo_soundNode_177 g33 g34 ?_
        refine V.lconst (x := 0) d_Mo_soundNode_178 (by decide) ?_
        refine V.lc_le d_Mo_soundNode_179 d_Mo_soundNode_180 ⟨rfl, rfl⟩ (fun hc => ?_) (fun hc => ?_)
        · replace hq := ifp hc hq
          refine V.iconst (x := 1) d_Mo_soundNode_183 (by decide) ?_
          refine V.goto (t := 212) d_Mo_soundNode_184 ⟨rfl, rfl⟩ ?_
          refine V.zret (y := (1 : Int32)) d_Mo_soundNode_212 rfl (by decide) ?_
          exact V.rI hq
        · replace hq := ifn hc hq
          refine V.iconst (x := 0) d_Mo_soundNode_187 (by decide) ?_
          refine V.goto (t := 212) d_Mo_soundNode_188 ⟨rfl, rfl⟩ ?_
          refine V.zret (y := (0 : Int32)) d_Mo_soundNode_212 rfl (by decide) ?_
          exact V.rI hq
      · replace hq := ifn hc hq
        refine V.aload_n d_Mo_soundNode_191 rfl ?_
        refine V.get2 d_Mo_soundNode_192 rfl (List.mem_singleton.mpr g25) ?_
        refine V.aload_n d_Mo_soundNode_195 rfl ?_
        refine V.get2 d_Mo_soundNode_196 rfl (List.mem_singleton.mpr g25) ?_
        refine V.iload_n d_Mo_soundNode_199 rfl ?_
        obtain ⟨g35, hq⟩ := hq
        obtain ⟨g36, hq⟩ := hq
        refine V.iaload d_Mo_soundNode_200 g35 g36 ?_
        obtain ⟨g37, hq⟩ := hq
        obtain ⟨g38, hq⟩ := hq
        refine V.laload d_Mo_soundNode_201 g37 g38 ?_
        refine V.lconst (x := 0) d_Mo_soundNode_202 (by decide) ?_
        refine V.lc_le d_Mo_soundNode_203 d_Mo_soundNode_204 ⟨rfl, rfl⟩ (fun hc => ?_) (fun hc => ?_)
        · replace hq := ifp hc hq
          refine V.iconst (x := 1) d_Mo_soundNode_207 (by decide) ?_
          refine V.goto (t := 212) d_Mo_soundNode_208 ⟨rfl, rfl⟩ ?_
          refine V.zret (y := (1 : Int32)) d_Mo_soundNode_212 rfl (by decide) ?_
          exact V.rI hq
        · replace hq := ifn hc hq
          refine V.iconst (x := 0) d_Mo_soundNode_211 (by decide) ?_
          refine V.zret (y := (0 : Int32)) d_Mo_soundNode_212 rfl (by decide) ?_
          exact V.rI hq
theorem w_Mo_soundAll {d : Nat} {K : Int32 → Hp → Prop} {x0 : Nat} {h0 : Hp} (hq :
  Wp (d + 1) m_Mo_soundAll 2 [some (.ref x0), some (.int (0 : Int32)), none] [] h0 (QI K)) : Ca (d + 1) m_Mo_soundAll [.ref x0] h0 (QI K) := by
  show Wp _ _ 0 [some (.ref x0), none, none] [] h0 _
  refine V.iconst (x := 0) d_Mo_soundAll_0 (by decide) ?_
  refine V.istore_n (l' := [_, _, _]) d_Mo_soundAll_1 rfl (ltb rfl) ?_
  exact hq
theorem w_Mo_soundAll_2 {d : Nat} {K : Int32 → Hp → Prop} {x0 : Nat} {x1 : Int32} {y2 : Option Value} {h0 : Hp} (hq :
  ((hS h0 x0).1 = 8 ∧ (if x1 < (hI h0 x0 23) then ((hS h0 (hR h0 x0 33)).1 = 20 ∧ (¬ (hR h0 x0 33) = 1 ∧ (ainr x1 (hS h0 (hR h0 x0 33)).2 = true ∧ (∀ h5 : Hp, h5 = sI h0 (hR h0 x0 33) x1.toNatClampNeg (-1 : Int32) → ((hS h0 (hR h5 x0 12)).1 = 20 ∧ (ainr x1 (hS h0 (hR h5 x0 12)).2 = true ∧ Ca d m_Mo_sized [.ref x0, .int (hI h5 (hR h5 x0 12) x1.toNatClampNeg)] h5 (QI (fun v8 h9 => (if v8 = 0 then Wp (d + 1) m_Mo_soundAll 35 [some (.ref x0), some (.int x1), y2] [] h9 (QI K) else ((hS h9 x0).1 = 8 ∧ Ca d m_Mo_interval [.ref x0, .int x1] h9 (QV (fun h12 => Wp (d + 1) m_Mo_soundAll 35 [some (.ref x0), some (.int x1), y2] [] h12 (QI K))))))))))))) else (∀ v14 : Int32, v14 = ((hI h0 x0 23) - (1 : Int32)) → Wp (d + 1) m_Mo_soundAll 92 [some (.ref x0), some (.int v14), y2] [] h0 (QI K))))) : Wp (d + 1) m_Mo_soundAll 2 [some (.ref x0), some (.int x1), y2] [] h0 (QI K) := by
  refine V.iload_n d_Mo_soundAll_2 rfl ?_
  refine V.aload_n d_Mo_soundAll_3 rfl ?_
  obtain ⟨g1, hq⟩ := hq
  refine V.get0 d_Mo_soundAll_4 rfl (List.mem_singleton.mpr g1) ?_
  refine V.ic_ge (t := 85) d_Mo_soundAll_7 ⟨rfl, rfl⟩ (fun hc => ?_) (fun hc => ?_)
  · replace hq := ifp hc hq
    refine V.aload_n d_Mo_soundAll_10 rfl ?_
    refine V.get2 d_Mo_soundAll_11 rfl (List.mem_singleton.mpr g1) ?_
    refine V.iload_n d_Mo_soundAll_14 rfl ?_
    refine V.iconst (x := -1) d_Mo_soundAll_15 (by decide) ?_
    obtain ⟨g2, hq⟩ := hq
    obtain ⟨g3, hq⟩ := hq
    obtain ⟨g4, hq⟩ := hq
    refine V.iastore d_Mo_soundAll_16 g2 g3 g4 ?_
    replace hq := hq _ rfl
    refine V.aload_n d_Mo_soundAll_17 rfl ?_
    refine V.aload_n d_Mo_soundAll_18 rfl ?_
    refine V.get2 d_Mo_soundAll_19 rfl (List.mem_singleton.mpr g1) ?_
    refine V.iload_n d_Mo_soundAll_22 rfl ?_
    obtain ⟨g6, hq⟩ := hq
    obtain ⟨g7, hq⟩ := hq
    refine V.iaload d_Mo_soundAll_23 g6 g7 ?_
    refine V.callI d_Mo_soundAll_24 (cV_call (t := [_]) (rs := []) rfl (Or.inl rfl) rfl (lk1 g1) ⟨leb rfl, leb rfl⟩) hq (fun v8 h9 hq => ?_)
    refine V.if_eq (t := 35) d_Mo_soundAll_27 ⟨rfl, rfl⟩ (fun hc => ?_) (fun hc => ?_)
    · replace hq := ifp hc hq
      exact hq
    · replace hq := ifn hc hq
      refine V.aload_n d_Mo_soundAll_30 rfl ?_
      refine V.iload_n d_Mo_soundAll_31 rfl ?_
      obtain ⟨g11, hq⟩ := hq
      refine V.callV d_Mo_soundAll_32 (cV_call (t := [_]) (rs := []) rfl (Or.inl rfl) rfl (lk1 g11) ⟨leb rfl, leb rfl⟩) hq (fun h12 hq => ?_)
      exact hq
  · replace hq := ifn hc hq
    refine V.aload_n d_Mo_soundAll_85 rfl ?_
    refine V.get0 d_Mo_soundAll_86 rfl (List.mem_singleton.mpr g1) ?_
    refine V.iconst (x := 1) d_Mo_soundAll_89 (by decide) ?_
    refine V.isub d_Mo_soundAll_90 ?_
    replace hq := hq _ rfl
    refine V.istore_n (l' := [_, _, _]) d_Mo_soundAll_91 rfl (ltb rfl) ?_
    exact hq
theorem w_Mo_soundAll_35 {d : Nat} {K : Int32 → Hp → Prop} {x0 : Nat} {x1 : Int32} {y2 : Option Value} {h0 : Hp} (hq :
  ((hS h0 x0).1 = 8 ∧ ((hS h0 (hR h0 x0 12)).1 = 20 ∧ (ainr x1 (hS h0 (hR h0 x0 12)).2 = true ∧ (if (hI h0 (hR h0 x0 12) x1.toNatClampNeg) = (42 : Int32) then Wp (d + 1) m_Mo_soundAll 68 [some (.ref x0), some (.int x1), y2] [] h0 (QI K) else (if (hI h0 (hR h0 x0 12) x1.toNatClampNeg) = (47 : Int32) then Wp (d + 1) m_Mo_soundAll 68 [some (.ref x0), some (.int x1), y2] [] h0 (QI K) else (if (hI h0 (hR h0 x0 12) x1.toNatClampNeg) = (63 : Int32) then Wp (d + 1) m_Mo_soundAll 68 [some (.ref x0), some (.int x1), y2] [] h0 (QI K) else (∀ v18 : Int32, v18 = (x1 + 1) → Wp (d + 1) m_Mo_soundAll 2 [some (.ref x0), some (.int v18), y2] [] h0 (QI K))))))))) : Wp (d + 1) m_Mo_soundAll 35 [some (.ref x0), some (.int x1), y2] [] h0 (QI K) := by
  refine V.aload_n d_Mo_soundAll_35 rfl ?_
  obtain ⟨g15, hq⟩ := hq
  refine V.get2 d_Mo_soundAll_36 rfl (List.mem_singleton.mpr g15) ?_
  refine V.iload_n d_Mo_soundAll_39 rfl ?_
  obtain ⟨g16, hq⟩ := hq
  obtain ⟨g17, hq⟩ := hq
  refine V.iaload d_Mo_soundAll_40 g16 g17 ?_
  refine V.bipush (x := 42) d_Mo_soundAll_41 (by decide) ?_
  refine V.ic_eq (t := 68) d_Mo_soundAll_43 ⟨rfl, rfl⟩ (fun hc => ?_) (fun hc => ?_)
  · replace hq := ifp hc hq
    exact hq
  · replace hq := ifn hc hq
    refine V.aload_n d_Mo_soundAll_46 rfl ?_
    refine V.get2 d_Mo_soundAll_47 rfl (List.mem_singleton.mpr g15) ?_
    refine V.iload_n d_Mo_soundAll_50 rfl ?_
    refine V.iaload d_Mo_soundAll_51 g16 g17 ?_
    refine V.bipush (x := 47) d_Mo_soundAll_52 (by decide) ?_
    refine V.ic_eq (t := 68) d_Mo_soundAll_54 ⟨rfl, rfl⟩ (fun hc => ?_) (fun hc => ?_)
    · replace hq := ifp hc hq
      exact hq
    · replace hq := ifn hc hq
      refine V.aload_n d_Mo_soundAll_57 rfl ?_
      refine V.get2 d_Mo_soundAll_58 rfl (List.mem_singleton.mpr g15) ?_
      refine V.iload_n d_Mo_soundAll_61 rfl ?_
      refine V.iaload d_Mo_soundAll_62 g16 g17 ?_
      refine V.bipush (x := 63) d_Mo_soundAll_63 (by decide) ?_
      refine V.ic_ne (t := 79) d_Mo_soundAll_65 ⟨rfl, rfl⟩ (fun hc => ?_) (fun hc => ?_)
      · replace hq := ifp hc hq
        exact hq
      · replace hq := ifn hc hq
        replace hq := hq _ rfl
        refine V.iinc (l' := [_, _, _]) d_Mo_soundAll_79 rfl (show _ + _ = _ + (1 : Int32) from rfl) rfl ?_
        refine V.goto (t := 2) d_Mo_soundAll_82 ⟨rfl, rfl⟩ ?_
        exact hq
theorem w_Mo_soundAll_92 {d : Nat} {K : Int32 → Hp → Prop} {x0 : Nat} {x1 : Int32} {y2 : Option Value} {h0 : Hp} (hq :
  (if x1 < 0 then Wp (d + 1) m_Mo_soundAll 111 [some (.ref x0), some (.int (1 : Int32)), some (.int (0 : Int32))] [] h0 (QI K) else ((hS h0 x0).1 = 8 ∧ Ca d m_Mo_measure [.ref x0, .int x1] h0 (QV (fun h20 => (∀ v22 : Int32, v22 = (x1 + (-1)) → Wp (d + 1) m_Mo_soundAll 92 [some (.ref x0), some (.int v22), y2] [] h20 (QI K))))))) : Wp (d + 1) m_Mo_soundAll 92 [some (.ref x0), some (.int x1), y2] [] h0 (QI K) := by
  refine V.iload_n d_Mo_soundAll_92 rfl ?_
  refine V.if_lt (t := 107) d_Mo_soundAll_93 ⟨rfl, rfl⟩ (fun hc => ?_) (fun hc => ?_)
  · replace hq := ifp hc hq
    refine V.iconst (x := 1) d_Mo_soundAll_107 (by decide) ?_
    refine V.istore_n (l' := [_, _, _]) d_Mo_soundAll_108 rfl (ltb rfl) ?_
    refine V.iconst (x := 0) d_Mo_soundAll_109 (by decide) ?_
    refine V.istore_n (l' := [_, _, _]) d_Mo_soundAll_110 rfl (ltb rfl) ?_
    exact hq
  · replace hq := ifn hc hq
    refine V.aload_n d_Mo_soundAll_96 rfl ?_
    refine V.iload_n d_Mo_soundAll_97 rfl ?_
    obtain ⟨g19, hq⟩ := hq
    refine V.callV d_Mo_soundAll_98 (cV_call (t := [_]) (rs := []) rfl (Or.inl rfl) rfl (lk1 g19) ⟨leb rfl, leb rfl⟩) hq (fun h20 hq => ?_)
    replace hq := hq _ rfl
    refine V.iinc (l' := [_, _, _]) d_Mo_soundAll_101 rfl (show _ + _ = _ + (-1 : Int32) from rfl) rfl ?_
    refine V.goto (t := 92) d_Mo_soundAll_104 ⟨rfl, rfl⟩ ?_
    exact hq
theorem w_Mo_soundAll_68 {d : Nat} {K : Int32 → Hp → Prop} {x0 : Nat} {x1 : Int32} {y2 : Option Value} {h0 : Hp} (hq :
  ((hS h0 x0).1 = 8 ∧ Ca d m_Mo_find [.ref x0, .int x1] h0 (QI (fun v24 h25 => ((hS h25 (hR h0 x0 33)).1 = 20 ∧ (¬ (hR h0 x0 33) = 1 ∧ (ainr x1 (hS h25 (hR h0 x0 33)).2 = true ∧ (∀ h30 : Hp, h30 = sI h25 (hR h0 x0 33) x1.toNatClampNeg v24 → (∀ v31 : Int32, v31 = (x1 + 1) → Wp (d + 1) m_Mo_soundAll 2 [some (.ref x0), some (.int v31), y2] [] h30 (QI K)))))))))) : Wp (d + 1) m_Mo_soundAll 68 [some (.ref x0), some (.int x1), y2] [] h0 (QI K) := by
  refine V.aload_n d_Mo_soundAll_68 rfl ?_
  obtain ⟨g23, hq⟩ := hq
  refine V.get2 d_Mo_soundAll_69 rfl (List.mem_singleton.mpr g23) ?_
  refine V.iload_n d_Mo_soundAll_72 rfl ?_
  refine V.aload_n d_Mo_soundAll_73 rfl ?_
  refine V.iload_n d_Mo_soundAll_74 rfl ?_
  refine V.callI d_Mo_soundAll_75 (cV_call (t := [_]) (rs := [_, _]) rfl (Or.inl rfl) rfl (lk1 g23) ⟨leb rfl, leb rfl⟩) hq (fun v24 h25 hq => ?_)
  obtain ⟨g27, hq⟩ := hq
  obtain ⟨g28, hq⟩ := hq
  obtain ⟨g29, hq⟩ := hq
  refine V.iastore d_Mo_soundAll_78 g27 g28 g29 ?_
  replace hq := hq _ rfl
  replace hq := hq _ rfl
  refine V.iinc (l' := [_, _, _]) d_Mo_soundAll_79 rfl (show _ + _ = _ + (1 : Int32) from rfl) rfl ?_
  refine V.goto (t := 2) d_Mo_soundAll_82 ⟨rfl, rfl⟩ ?_
  exact hq
theorem w_Mo_soundAll_111 {d : Nat} {K : Int32 → Hp → Prop} {x0 : Nat} {x1 : Int32} {x2 : Int32} {h0 : Hp} (hq :
  ((hS h0 x0).1 = 8 ∧ (if x2 < (hI h0 x0 23) then Ca d m_Mo_soundNode [.ref x0, .int x2] h0 (QI (fun v33 h34 => (∀ v36 : Int32, v36 = (x1 &&& v33) → (∀ v37 : Int32, v37 = (x2 + 1) → Wp (d + 1) m_Mo_soundAll 111 [some (.ref x0), some (.int v36), some (.int v37)] [] h34 (QI K))))) else K (x1 &&& 1) h0))) : Wp (d + 1) m_Mo_soundAll 111 [some (.ref x0), some (.int x1), some (.int x2)] [] h0 (QI K) := by
  refine V.iload_n d_Mo_soundAll_111 rfl ?_
  refine V.aload_n d_Mo_soundAll_112 rfl ?_
  obtain ⟨g32, hq⟩ := hq
  refine V.get0 d_Mo_soundAll_113 rfl (List.mem_singleton.mpr g32) ?_
  refine V.ic_ge (t := 133) d_Mo_soundAll_116 ⟨rfl, rfl⟩ (fun hc => ?_) (fun hc => ?_)
  · replace hq := ifp hc hq
    refine V.iload_n d_Mo_soundAll_119 rfl ?_
    refine V.aload_n d_Mo_soundAll_120 rfl ?_
    refine V.iload_n d_Mo_soundAll_121 rfl ?_
    refine V.callI d_Mo_soundAll_122 (cV_call (t := [_]) (rs := [_]) rfl (Or.inl rfl) rfl (lk1 g32) ⟨leb rfl, leb rfl⟩) hq (fun v33 h34 hq => ?_)
    refine V.iand d_Mo_soundAll_125 ?_
    replace hq := hq _ rfl
    refine V.istore_n (l' := [_, _, _]) d_Mo_soundAll_126 rfl (ltb rfl) ?_
    replace hq := hq _ rfl
    refine V.iinc (l' := [_, _, _]) d_Mo_soundAll_127 rfl (show _ + _ = _ + (1 : Int32) from rfl) rfl ?_
    refine V.goto (t := 111) d_Mo_soundAll_130 ⟨rfl, rfl⟩ ?_
    exact hq
  · replace hq := ifn hc hq
    refine V.iload_n d_Mo_soundAll_133 rfl ?_
    refine V.zret (y := _) d_Mo_soundAll_134 rfl rfl ?_
    exact V.rI hq
theorem w_Mo_compile {d : Nat} {K : Int32 → Hp → Prop} {x0 : Nat} {h0 : Hp} (hq :
  ((hS h0 x0).1 = 8 ∧ (∀ h2 : Hp, h2 = sI h0 x0 0 (0 : Int32) → (∀ h3 : Hp, h3 = sI h2 x0 5 (0 : Int32) → Ca d m_Mo_scan [.ref x0, .int (0 : Int32)] h3 (QI (fun v4 h5 => (if v4 = (-2 : Int32) then ((hS h5 x0).1 = 8 ∧ Ca d m_Mo_soundAll [.ref x0] h5 (QI (fun v8 h9 => (if v8 = 0 then ((hS h9 x0).1 = 8 ∧ Ca d m_Mo_fail [.ref x0, .int (2 : Int32)] h9 (QI (fun v12 h13 => K v12 h13))) else ((hS h9 x0).1 = 8 ∧ (∀ h16 : Hp, h16 = sI h9 x0 5 (1 : Int32) → (∀ h17 : Hp, h17 = sI h16 x0 4 (hI h16 x0 2) → Wp (d + 1) m_Mo_compile 54 [some (.ref x0), some (.int (0 : Int32))] [] h17 (QI K)))))))) else ((hS h5 x0).1 = 8 ∧ Ca d m_Mo_fail [.ref x0, .int (1 : Int32)] h5 (QI (fun v19 h20 => K v19 h20)))))))))) : Ca (d + 1) m_Mo_compile [.ref x0] h0 (QI K) := by
  show Wp _ _ 0 [some (.ref x0), none] [] h0 _
  refine V.aload_n d_Mo_compile_0 rfl ?_
  refine V.iconst (x := 0) d_Mo_compile_1 (by decide) ?_
  obtain ⟨g1, hq⟩ := hq
  refine V.put0 d_Mo_compile_2 rfl (Or.inl rfl) (List.mem_singleton.mpr g1) ?_
  replace hq := hq _ rfl
  refine V.aload_n d_Mo_compile_5 rfl ?_
  refine V.iconst (x := 0) d_Mo_compile_6 (by decide) ?_
  refine V.put3 d_Mo_compile_7 rfl (Or.inl rfl) (List.mem_singleton.mpr g1) (by decide) ?_
  replace hq := hq _ rfl
  refine V.aload_n d_Mo_compile_10 rfl ?_
  refine V.iconst (x := 0) d_Mo_compile_11 (by decide) ?_
  refine V.callI d_Mo_compile_12 (cV_call (t := [_]) (rs := []) rfl (Or.inl rfl) rfl (lk1 g1) ⟨leb rfl, leb rfl⟩) hq (fun v4 h5 hq => ?_)
  refine V.bipush (x := -2) d_Mo_compile_15 (by decide) ?_
  refine V.ic_eq (t := 26) d_Mo_compile_17 ⟨rfl, rfl⟩ (fun hc => ?_) (fun hc => ?_)
  · replace hq := ifp hc hq
    refine V.aload_n d_Mo_compile_26 rfl ?_
    obtain ⟨g7, hq⟩ := hq
    refine V.callI d_Mo_compile_27 (cV_call (t := []) (rs := []) rfl (Or.inl rfl) rfl (lk1 g7) ⟨leb rfl, leb rfl⟩) hq (fun v8 h9 hq => ?_)
    refine V.if_ne (t := 39) d_Mo_compile_30 ⟨rfl, rfl⟩ (fun hc => ?_) (fun hc => ?_)
    · replace hq := ifp hc hq
      refine V.aload_n d_Mo_compile_33 rfl ?_
      refine V.iconst (x := 2) d_Mo_compile_34 (by decide) ?_
      obtain ⟨g11, hq⟩ := hq
      refine V.callI d_Mo_compile_35 (cV_call (t := [_]) (rs := []) rfl (Or.inl rfl) rfl (lk1 g11) ⟨leb rfl, leb rfl⟩) hq (fun v12 h13 hq => ?_)
      refine V.iret d_Mo_compile_38 rfl ?_
      exact V.rI hq
    · replace hq := ifn hc hq
      refine V.aload_n d_Mo_compile_39 rfl ?_
      refine V.iconst (x := 1) d_Mo_compile_40 (by decide) ?_
      obtain ⟨g15, hq⟩ := hq
      refine V.put3 d_Mo_compile_41 rfl (Or.inl rfl) (List.mem_singleton.mpr g15) (by decide) ?_
      replace hq := hq _ rfl
      refine V.aload_n d_Mo_compile_44 rfl ?_
      refine V.aload_n d_Mo_compile_45 rfl ?_
      refine V.get0 d_Mo_compile_46 rfl (List.mem_singleton.mpr g15) ?_
      refine V.put0 d_Mo_compile_49 rfl (Or.inl rfl) (List.mem_singleton.mpr g15) ?_
      replace hq := hq _ rfl
      refine V.iconst (x := 0) d_Mo_compile_52 (by decide) ?_
      refine V.istore_n (l' := [_, _]) d_Mo_compile_53 rfl (ltb rfl) ?_
      exact hq
  · replace hq := ifn hc hq
    refine V.aload_n d_Mo_compile_20 rfl ?_
    refine V.iconst (x := 1) d_Mo_compile_21 (by decide) ?_
    obtain ⟨g18, hq⟩ := hq
    refine V.callI d_Mo_compile_22 (cV_call (t := [_]) (rs := []) rfl (Or.inl rfl) rfl (lk1 g18) ⟨leb rfl, leb rfl⟩) hq (fun v19 h20 hq => ?_)
    refine V.iret d_Mo_compile_25 rfl ?_
    exact V.rI hq
theorem w_Mo_compile_54 {d : Nat} {K : Int32 → Hp → Prop} {x0 : Nat} {x1 : Int32} {h0 : Hp} (hq :
  ((hS h0 x0).1 = 8 ∧ (if x1 < (hI h0 x0 2) then ((hS h0 (hR h0 x0 1)).1 = 20 ∧ (ainr x1 (hS h0 (hR h0 x0 1)).2 = true ∧ ((hS h0 (hR h0 x0 3)).1 = 20 ∧ (¬ (hR h0 x0 3) = 1 ∧ (ainr x1 (hS h0 (hR h0 x0 3)).2 = true ∧ (∀ h28 : Hp, h28 = sI h0 (hR h0 x0 3) x1.toNatClampNeg (hI h0 (hR h0 x0 1) x1.toNatClampNeg) → (∀ v29 : Int32, v29 = (x1 + 1) → Wp (d + 1) m_Mo_compile 54 [some (.ref x0), some (.int v29)] [] h28 (QI K)))))))) else ((hS h0 (hR h0 x0 32)).1 = 21 ∧ (ainr (0 : Int32) (hS h0 (hR h0 x0 32)).2 = true ∧ K ((hL h0 (hR h0 x0 32) (0 : Int32).toNatClampNeg).toInt32) h0))))) : Wp (d + 1) m_Mo_compile 54 [some (.ref x0), some (.int x1)] [] h0 (QI K) := by
  refine V.iload_n d_Mo_compile_54 rfl ?_
  refine V.aload_n d_Mo_compile_55 rfl ?_
  obtain ⟨g22, hq⟩ := hq
  refine V.get0 d_Mo_compile_56 rfl (List.mem_singleton.mpr g22) ?_
  refine V.ic_ge (t := 80) d_Mo_compile_59 ⟨rfl, rfl⟩ (fun hc => ?_) (fun hc => ?_)
  · replace hq := ifp hc hq
    refine V.aload_n d_Mo_compile_62 rfl ?_
    refine V.get2 d_Mo_compile_63 rfl (List.mem_singleton.mpr g22) ?_
    refine V.iload_n d_Mo_compile_66 rfl ?_
    refine V.aload_n d_Mo_compile_67 rfl ?_
    refine V.get2 d_Mo_compile_68 rfl (List.mem_singleton.mpr g22) ?_
    refine V.iload_n d_Mo_compile_71 rfl ?_
    obtain ⟨g23, hq⟩ := hq
    obtain ⟨g24, hq⟩ := hq
    refine V.iaload d_Mo_compile_72 g23 g24 ?_
    obtain ⟨g25, hq⟩ := hq
    obtain ⟨g26, hq⟩ := hq
    obtain ⟨g27, hq⟩ := hq
    refine V.iastore d_Mo_compile_73 g25 g26 g27 ?_
    replace hq := hq _ rfl
    replace hq := hq _ rfl
    refine V.iinc (l' := [_, _]) d_Mo_compile_74 rfl (show _ + _ = _ + (1 : Int32) from rfl) rfl ?_
    refine V.goto (t := 54) d_Mo_compile_77 ⟨rfl, rfl⟩ ?_
    exact hq
  · replace hq := ifn hc hq
    refine V.aload_n d_Mo_compile_80 rfl ?_
    refine V.get2 d_Mo_compile_81 rfl (List.mem_singleton.mpr g22) ?_
    refine V.iconst (x := 0) d_Mo_compile_84 (by decide) ?_
    obtain ⟨g30, hq⟩ := hq
    obtain ⟨g31, hq⟩ := hq
    refine V.laload d_Mo_compile_85 g30 g31 ?_
    refine V.l2i d_Mo_compile_86 ?_
    refine V.iret d_Mo_compile_87 rfl ?_
    exact V.rI hq
