set_option maxRecDepth 100000 in
theorem w_Mo_init {d : Nat} {K : Hp → Prop} {x0 : Nat} {h0 : Hp} (hq :
  (2 ≤ x0 ∧ ((¬ (90 : Int32) < 0 ∧ (90 : Int32).toNatClampNeg ≤ 100000 ∧ room h0 (90 : Int32).toNatClampNeg = true) ∧ (∀ a3 : Nat, a3 = hN h0 → (∀ h4 : Hp, h4 = hNew h0 20 (90 : Int32).toNatClampNeg (90 : Int32).toNatClampNeg → ((hS h4 x0).1 = 8 ∧ (∀ h7 : Hp, h7 = sR h4 x0 1 a3 → ((¬ (90 : Int32) < 0 ∧ (90 : Int32).toNatClampNeg ≤ 100000 ∧ room h7 (90 : Int32).toNatClampNeg = true) ∧ (∀ a9 : Nat, a9 = hN h7 → (∀ h10 : Hp, h10 = hNew h7 20 (90 : Int32).toNatClampNeg (90 : Int32).toNatClampNeg → ((hS h10 x0).1 = 8 ∧ (∀ h13 : Hp, h13 = sR h10 x0 3 a9 → ((¬ (121 : Int32) < 0 ∧ (121 : Int32).toNatClampNeg ≤ 100000 ∧ room h13 (121 : Int32).toNatClampNeg = true) ∧ (∀ a15 : Nat, a15 = hN h13 → (∀ h16 : Hp, h16 = hNew h13 20 (121 : Int32).toNatClampNeg (121 : Int32).toNatClampNeg → ((hS h16 x0).1 = 8 ∧ (∀ h19 : Hp, h19 = sR h16 x0 6 a15 → ((¬ (161 : Int32) < 0 ∧ (161 : Int32).toNatClampNeg ≤ 100000 ∧ room h19 (161 : Int32).toNatClampNeg = true) ∧ (∀ a21 : Nat, a21 = hN h19 → (∀ h22 : Hp, h22 = hNew h19 21 (161 : Int32).toNatClampNeg (161 : Int32).toNatClampNeg → ((hS h22 x0).1 = 8 ∧ (∀ h25 : Hp, h25 = sR h22 x0 8 a21 → (∀ h26 : Hp, h26 = sI h25 x0 10 (-1 : Int32) → (∀ h27 : Hp, h27 = sI h26 x0 11 (-1 : Int32) → ((¬ (90 : Int32) < 0 ∧ (90 : Int32).toNatClampNeg ≤ 100000 ∧ room h27 (90 : Int32).toNatClampNeg = true) ∧ (∀ a29 : Nat, a29 = hN h27 → (∀ h30 : Hp, h30 = hNew h27 20 (90 : Int32).toNatClampNeg (90 : Int32).toNatClampNeg → ((hS h30 x0).1 = 8 ∧ (∀ h33 : Hp, h33 = sR h30 x0 12 a29 → ((¬ (90 : Int32) < 0 ∧ (90 : Int32).toNatClampNeg ≤ 100000 ∧ room h33 (90 : Int32).toNatClampNeg = true) ∧ (∀ a35 : Nat, a35 = hN h33 → (∀ h36 : Hp, h36 = hNew h33 20 (90 : Int32).toNatClampNeg (90 : Int32).toNatClampNeg → ((hS h36 x0).1 = 8 ∧ (∀ h39 : Hp, h39 = sR h36 x0 13 a35 → ((¬ (90 : Int32) < 0 ∧ (90 : Int32).toNatClampNeg ≤ 100000 ∧ room h39 (90 : Int32).toNatClampNeg = true) ∧ (∀ a41 : Nat, a41 = hN h39 → (∀ h42 : Hp, h42 = hNew h39 20 (90 : Int32).toNatClampNeg (90 : Int32).toNatClampNeg → ((hS h42 x0).1 = 8 ∧ (∀ h45 : Hp, h45 = sR h42 x0 14 a41 → ((¬ (90 : Int32) < 0 ∧ (90 : Int32).toNatClampNeg ≤ 100000 ∧ room h45 (90 : Int32).toNatClampNeg = true) ∧ (∀ a47 : Nat, a47 = hN h45 → (∀ h48 : Hp, h48 = hNew h45 20 (90 : Int32).toNatClampNeg (90 : Int32).toNatClampNeg → ((hS h48 x0).1 = 8 ∧ (∀ h51 : Hp, h51 = sR h48 x0 15 a47 → ((¬ (90 : Int32) < 0 ∧ (90 : Int32).toNatClampNeg ≤ 100000 ∧ room h51 (90 : Int32).toNatClampNeg = true) ∧ (∀ a53 : Nat, a53 = hN h51 → (∀ h54 : Hp, h54 = hNew h51 20 (90 : Int32).toNatClampNeg (90 : Int32).toNatClampNeg → ((hS h54 x0).1 = 8 ∧ (∀ h57 : Hp, h57 = sR h54 x0 16 a53 → ((¬ (90 : Int32) < 0 ∧ (90 : Int32).toNatClampNeg ≤ 100000 ∧ room h57 (90 : Int32).toNatClampNeg = true) ∧ (∀ a59 : Nat, a59 = hN h57 → (∀ h60 : Hp, h60 = hNew h57 20 (90 : Int32).toNatClampNeg (90 : Int32).toNatClampNeg → ((hS h60 x0).1 = 8 ∧ (∀ h63 : Hp, h63 = sR h60 x0 17 a59 → ((¬ (90 : Int32) < 0 ∧ (90 : Int32).toNatClampNeg ≤ 100000 ∧ room h63 (90 : Int32).toNatClampNeg = true) ∧ (∀ a65 : Nat, a65 = hN h63 → (∀ h66 : Hp, h66 = hNew h63 20 (90 : Int32).toNatClampNeg (90 : Int32).toNatClampNeg → ((hS h66 x0).1 = 8 ∧ (∀ h69 : Hp, h69 = sR h66 x0 18 a65 → ((¬ (90 : Int32) < 0 ∧ (90 : Int32).toNatClampNeg ≤ 100000 ∧ room h69 (90 : Int32).toNatClampNeg = true) ∧ (∀ a71 : Nat, a71 = hN h69 → (∀ h72 : Hp, h72 = hNew h69 20 (90 : Int32).toNatClampNeg (90 : Int32).toNatClampNeg → ((hS h72 x0).1 = 8 ∧ (∀ h75 : Hp, h75 = sR h72 x0 19 a71 → ((¬ (90 : Int32) < 0 ∧ (90 : Int32).toNatClampNeg ≤ 100000 ∧ room h75 (90 : Int32).toNatClampNeg = true) ∧ (∀ a77 : Nat, a77 = hN h75 → (∀ h78 : Hp, h78 = hNew h75 20 (90 : Int32).toNatClampNeg (90 : Int32).toNatClampNeg → ((hS h78 x0).1 = 8 ∧ (∀ h81 : Hp, h81 = sR h78 x0 20 a77 → ((¬ (90 : Int32) < 0 ∧ (90 : Int32).toNatClampNeg ≤ 100000 ∧ room h81 (90 : Int32).toNatClampNeg = true) ∧ (∀ a83 : Nat, a83 = hN h81 → (∀ h84 : Hp, h84 = hNew h81 20 (90 : Int32).toNatClampNeg (90 : Int32).toNatClampNeg → ((hS h84 x0).1 = 8 ∧ (∀ h87 : Hp, h87 = sR h84 x0 21 a83 → ((¬ (90 : Int32) < 0 ∧ (90 : Int32).toNatClampNeg ≤ 100000 ∧ room h87 (90 : Int32).toNatClampNeg = true) ∧ (∀ a89 : Nat, a89 = hN h87 → (∀ h90 : Hp, h90 = hNew h87 20 (90 : Int32).toNatClampNeg (90 : Int32).toNatClampNeg → ((hS h90 x0).1 = 8 ∧ (∀ h93 : Hp, h93 = sR h90 x0 22 a89 → ((¬ (8 : Int32) < 0 ∧ (8 : Int32).toNatClampNeg ≤ 100000 ∧ room h93 (8 : Int32).toNatClampNeg = true) ∧ (∀ a95 : Nat, a95 = hN h93 → (∀ h96 : Hp, h96 = hNew h93 20 (8 : Int32).toNatClampNeg (8 : Int32).toNatClampNeg → ((hS h96 x0).1 = 8 ∧ (∀ h99 : Hp, h99 = sR h96 x0 24 a95 → ((¬ (8 : Int32) < 0 ∧ (8 : Int32).toNatClampNeg ≤ 100000 ∧ room h99 (8 : Int32).toNatClampNeg = true) ∧ (∀ a101 : Nat, a101 = hN h99 → (∀ h102 : Hp, h102 = hNew h99 20 (8 : Int32).toNatClampNeg (8 : Int32).toNatClampNeg → ((hS h102 x0).1 = 8 ∧ (∀ h105 : Hp, h105 = sR h102 x0 25 a101 → ((¬ (8 : Int32) < 0 ∧ (8 : Int32).toNatClampNeg ≤ 100000 ∧ room h105 (8 : Int32).toNatClampNeg = true) ∧ (∀ a107 : Nat, a107 = hN h105 → (∀ h108 : Hp, h108 = hNew h105 20 (8 : Int32).toNatClampNeg (8 : Int32).toNatClampNeg → ((hS h108 x0).1 = 8 ∧ (∀ h111 : Hp, h111 = sR h108 x0 26 a107 → ((¬ (8 : Int32) < 0 ∧ (8 : Int32).toNatClampNeg ≤ 100000 ∧ room h111 (8 : Int32).toNatClampNeg = true) ∧ (∀ a113 : Nat, a113 = hN h111 → (∀ h114 : Hp, h114 = hNew h111 20 (8 : Int32).toNatClampNeg (8 : Int32).toNatClampNeg → ((hS h114 x0).1 = 8 ∧ (∀ h117 : Hp, h117 = sR h114 x0 27 a113 → ((¬ (90 : Int32) < 0 ∧ (90 : Int32).toNatClampNeg ≤ 100000 ∧ room h117 (90 : Int32).toNatClampNeg = true) ∧ (∀ a119 : Nat, a119 = hN h117 → (∀ h120 : Hp, h120 = hNew h117 21 (90 : Int32).toNatClampNeg (90 : Int32).toNatClampNeg → ((hS h120 x0).1 = 8 ∧ (∀ h123 : Hp, h123 = sR h120 x0 29 a119 → ((¬ (90 : Int32) < 0 ∧ (90 : Int32).toNatClampNeg ≤ 100000 ∧ room h123 (90 : Int32).toNatClampNeg = true) ∧ (∀ a125 : Nat, a125 = hN h123 → (∀ h126 : Hp, h126 = hNew h123 21 (90 : Int32).toNatClampNeg (90 : Int32).toNatClampNeg → ((hS h126 x0).1 = 8 ∧ (∀ h129 : Hp, h129 = sR h126 x0 30 a125 → ((¬ (90 : Int32) < 0 ∧ (90 : Int32).toNatClampNeg ≤ 100000 ∧ room h129 (90 : Int32).toNatClampNeg = true) ∧ (∀ a131 : Nat, a131 = hN h129 → (∀ h132 : Hp, h132 = hNew h129 21 (90 : Int32).toNatClampNeg (90 : Int32).toNatClampNeg → ((hS h132 x0).1 = 8 ∧ (∀ h135 : Hp, h135 = sR h132 x0 31 a131 → ((¬ (90 : Int32) < 0 ∧ (90 : Int32).toNatClampNeg ≤ 100000 ∧ room h135 (90 : Int32).toNatClampNeg = true) ∧ (∀ a137 : Nat, a137 = hN h135 → (∀ h138 : Hp, h138 = hNew h135 21 (90 : Int32).toNatClampNeg (90 : Int32).toNatClampNeg → ((hS h138 x0).1 = 8 ∧ (∀ h141 : Hp, h141 = sR h138 x0 32 a137 → ((¬ (90 : Int32) < 0 ∧ (90 : Int32).toNatClampNeg ≤ 100000 ∧ room h141 (90 : Int32).toNatClampNeg = true) ∧ (∀ a143 : Nat, a143 = hN h141 → (∀ h144 : Hp, h144 = hNew h141 20 (90 : Int32).toNatClampNeg (90 : Int32).toNatClampNeg → ((hS h144 x0).1 = 8 ∧ (∀ h147 : Hp, h147 = sR h144 x0 33 a143 → ((¬ (90 : Int32) < 0 ∧ (90 : Int32).toNatClampNeg ≤ 100000 ∧ room h147 (90 : Int32).toNatClampNeg = true) ∧ (∀ a149 : Nat, a149 = hN h147 → (∀ h150 : Hp, h150 = hNew h147 21 (90 : Int32).toNatClampNeg (90 : Int32).toNatClampNeg → ((hS h150 x0).1 = 8 ∧ (∀ h153 : Hp, h153 = sR h150 x0 34 a149 → ((¬ (8 : Int32) < 0 ∧ (8 : Int32).toNatClampNeg ≤ 100000 ∧ room h153 (8 : Int32).toNatClampNeg = true) ∧ (∀ a155 : Nat, a155 = hN h153 → (∀ h156 : Hp, h156 = hNew h153 20 (8 : Int32).toNatClampNeg (8 : Int32).toNatClampNeg → ((hS h156 x0).1 = 8 ∧ (∀ h159 : Hp, h159 = sR h156 x0 35 a155 → ((¬ (8 : Int32) < 0 ∧ (8 : Int32).toNatClampNeg ≤ 100000 ∧ room h159 (8 : Int32).toNatClampNeg = true) ∧ (∀ a161 : Nat, a161 = hN h159 → (∀ h162 : Hp, h162 = hNew h159 20 (8 : Int32).toNatClampNeg (8 : Int32).toNatClampNeg → ((hS h162 x0).1 = 8 ∧ (∀ h165 : Hp, h165 = sR h162 x0 36 a161 → ((¬ (8 : Int32) < 0 ∧ (8 : Int32).toNatClampNeg ≤ 100000 ∧ room h165 (8 : Int32).toNatClampNeg = true) ∧ (∀ a167 : Nat, a167 = hN h165 → (∀ h168 : Hp, h168 = hNew h165 21 (8 : Int32).toNatClampNeg (8 : Int32).toNatClampNeg → ((hS h168 x0).1 = 8 ∧ (∀ h171 : Hp, h171 = sR h168 x0 37 a167 → ((¬ (8 : Int32) < 0 ∧ (8 : Int32).toNatClampNeg ≤ 100000 ∧ room h171 (8 : Int32).toNatClampNeg = true) ∧ (∀ a173 : Nat, a173 = hN h171 → (∀ h174 : Hp, h174 = hNew h171 20 (8 : Int32).toNatClampNeg (8 : Int32).toNatClampNeg → ((hS h174 x0).1 = 8 ∧ (∀ h177 : Hp, h177 = sR h174 x0 38 a173 → ((¬ (121 : Int32) < 0 ∧ (121 : Int32).toNatClampNeg ≤ 100000 ∧ room h177 (121 : Int32).toNatClampNeg = true) ∧ (∀ a179 : Nat, a179 = hN h177 → (∀ h180 : Hp, h180 = hNew h177 20 (121 : Int32).toNatClampNeg (121 : Int32).toNatClampNeg → ((hS h180 x0).1 = 8 ∧ (∀ h183 : Hp, h183 = sR h180 x0 44 a179 → ((¬ (161 : Int32) < 0 ∧ (161 : Int32).toNatClampNeg ≤ 100000 ∧ room h183 (161 : Int32).toNatClampNeg = true) ∧ (∀ a185 : Nat, a185 = hN h183 → (∀ h186 : Hp, h186 = hNew h183 21 (161 : Int32).toNatClampNeg (161 : Int32).toNatClampNeg → ((hS h186 x0).1 = 8 ∧ (∀ h189 : Hp, h189 = sR h186 x0 45 a185 → K h189))))))))))))))))))))))))))))))))))))))))))))))))))))))))))))))))))))))))))))))))))))))))))))))))))))))))))))))))))))))))))))))))))))))))))))))))))))))))))))))) : Ca d m_Mo_init [.ref x0] h0 (QV K) := by
  show Wp _ _ 0 [some (.ref x0)] [] h0 _
  refine V.aload_n d_Mo_init_0 rfl ?_
  obtain ⟨g1, hq⟩ := hq
  refine V.objInit d_Mo_init_1 rfl g1 (leb rfl) ?_
  refine V.aload_n d_Mo_init_4 rfl ?_
  refine V.bipush (x := 90) d_Mo_init_5 (by decide) ?_
  obtain ⟨g2, hq⟩ := hq
  refine V.newa d_Mo_init_7 rfl g2 ?_
  replace hq := hq _ rfl
  replace hq := hq _ rfl
  obtain ⟨g6, hq⟩ := hq
  refine V.put2 d_Mo_init_9 rfl (Or.inr rfl) (List.mem_singleton.mpr g6) ?_
  replace hq := hq _ rfl
  refine V.aload_n d_Mo_init_12 rfl ?_
  refine V.bipush (x := 90) d_Mo_init_13 (by decide) ?_
  obtain ⟨g8, hq⟩ := hq
  refine V.newa d_Mo_init_15 rfl g8 ?_
  replace hq := hq _ rfl
  replace hq := hq _ rfl
  obtain ⟨g12, hq⟩ := hq
  refine V.put2 d_Mo_init_17 rfl (Or.inr rfl) (List.mem_singleton.mpr g12) ?_
  replace hq := hq _ rfl
  refine V.aload_n d_Mo_init_20 rfl ?_
  refine V.bipush (x := 121) d_Mo_init_21 (by decide) ?_
  obtain ⟨g14, hq⟩ := hq
  refine V.newa d_Mo_init_23 rfl g14 ?_
  replace hq := hq _ rfl
  replace hq := hq _ rfl
  obtain ⟨g18, hq⟩ := hq
  refine V.put2 d_Mo_init_25 rfl (Or.inr rfl) (List.mem_singleton.mpr g18) ?_
  replace hq := hq _ rfl
  refine V.aload_n d_Mo_init_28 rfl ?_
  refine V.sipush (x := 161) d_Mo_init_29 (by decide) ?_
  obtain ⟨g20, hq⟩ := hq
  refine V.newa d_Mo_init_32 rfl g20 ?_
  replace hq := hq _ rfl
  replace hq := hq _ rfl
  obtain ⟨g24, hq⟩ := hq
  refine V.put2 d_Mo_init_34 rfl (Or.inr rfl) (List.mem_singleton.mpr g24) ?_
  replace hq := hq _ rfl
  refine V.aload_n d_Mo_init_37 rfl ?_
  refine V.iconst (x := -1) d_Mo_init_38 (by decide) ?_
  refine V.put0 d_Mo_init_39 rfl (Or.inl rfl) (List.mem_singleton.mpr g24) ?_
  replace hq := hq _ rfl
  refine V.aload_n d_Mo_init_42 rfl ?_
  refine V.iconst (x := -1) d_Mo_init_43 (by decide) ?_
  refine V.put0 d_Mo_init_44 rfl (Or.inl rfl) (List.mem_singleton.mpr g24) ?_
  replace hq := hq _ rfl
  refine V.aload_n d_Mo_init_47 rfl ?_
  refine V.bipush (x := 90) d_Mo_init_48 (by decide) ?_
  obtain ⟨g28, hq⟩ := hq
  refine V.newa d_Mo_init_50 rfl g28 ?_
  replace hq := hq _ rfl
  replace hq := hq _ rfl
  obtain ⟨g32, hq⟩ := hq
  refine V.put2 d_Mo_init_52 rfl (Or.inr rfl) (List.mem_singleton.mpr g32) ?_
  replace hq := hq _ rfl
  refine V.aload_n d_Mo_init_55 rfl ?_
  refine V.bipush (x := 90) d_Mo_init_56 (by decide) ?_
  obtain ⟨g34, hq⟩ := hq
  refine V.newa d_Mo_init_58 rfl g34 ?_
  replace hq := hq _ rfl
  replace hq := hq _ rfl
  obtain ⟨g38, hq⟩ := hq
  refine V.put2 d_Mo_init_60 rfl (Or.inr rfl) (List.mem_singleton.mpr g38) ?_
  replace hq := hq _ rfl
  refine V.aload_n d_Mo_init_63 rfl ?_
  refine V.bipush (x := 90) d_Mo_init_64 (by decide) ?_
  obtain ⟨g40, hq⟩ := hq
  refine V.newa d_Mo_init_66 rfl g40 ?_
  replace hq := hq _ rfl
  replace hq := hq _ rfl
  obtain ⟨g44, hq⟩ := hq
  refine V.put2 d_Mo_init_68 rfl (Or.inr rfl) (List.mem_singleton.mpr g44) ?_
  replace hq := hq _ rfl
  refine V.aload_n d_Mo_init_71 rfl ?_
  refine V.bipush (x := 90) d_Mo_init_72 (by decide) ?_
  obtain ⟨g46, hq⟩ := hq
  refine V.newa d_Mo_init_74 rfl g46 ?_
  replace hq := hq _ rfl
  replace hq := hq _ rfl
  obtain ⟨g50, hq⟩ := hq
  refine V.put2 d_Mo_init_76 rfl (Or.inr rfl) (List.mem_singleton.mpr g50) ?_
  replace hq := hq _ rfl
  refine V.aload_n d_Mo_init_79 rfl ?_
  refine V.bipush (x := 90) d_Mo_init_80 (by decide) ?_
  obtain ⟨g52, hq⟩ := hq
  refine V.newa d_Mo_init_82 rfl g52 ?_
  replace hq := hq _ rfl
  replace hq := hq _ rfl
  obtain ⟨g56, hq⟩ := hq
  refine V.put2 d_Mo_init_84 rfl (Or.inr rfl) (List.mem_singleton.mpr g56) ?_
  replace hq := hq _ rfl
  refine V.aload_n d_Mo_init_87 rfl ?_
  refine V.bipush (x := 90) d_Mo_init_88 (by decide) ?_
  obtain ⟨g58, hq⟩ := hq
  refine V.newa d_Mo_init_90 rfl g58 ?_
  replace hq := hq _ rfl
  replace hq := hq _ rfl
  obtain ⟨g62, hq⟩ := hq
  refine V.put2 d_Mo_init_92 rfl (Or.inr rfl) (List.mem_singleton.mpr g62) ?_
  replace hq := hq _ rfl
  refine V.aload_n d_Mo_init_95 rfl ?_
  refine V.bipush (x := 90) d_Mo_init_96 (by decide) ?_
  obtain ⟨g64, hq⟩ := hq
  refine V.newa d_Mo_init_98 rfl g64 ?_
  replace hq := hq _ rfl
  replace hq := hq _ rfl
  obtain ⟨g68, hq⟩ := hq
  refine V.put2 d_Mo_init_100 rfl (Or.inr rfl) (List.mem_singleton.mpr g68) ?_
  replace hq := hq _ rfl
  refine V.aload_n d_Mo_init_103 rfl ?_
  refine V.bipush (x := 90) d_Mo_init_104 (by decide) ?_
  obtain ⟨g70, hq⟩ := hq
  refine V.newa d_Mo_init_106 rfl g70 ?_
  replace hq := hq _ rfl
  replace hq := hq _ rfl
  obtain ⟨g74, hq⟩ := hq
  refine V.put2 d_Mo_init_108 rfl (Or.inr rfl) (List.mem_singleton.mpr g74) ?_
  replace hq := hq _ rfl
  refine V.aload_n d_Mo_init_111 rfl ?_
  refine V.bipush (x := 90) d_Mo_init_112 (by decide) ?_
  obtain ⟨g76, hq⟩ := hq
  refine V.newa d_Mo_init_114 rfl g76 ?_
  replace hq := hq _ rfl
  replace hq := hq _ rfl
  obtain ⟨g80, hq⟩ := hq
  refine V.put2 d_Mo_init_116 rfl (Or.inr rfl) (List.mem_singleton.mpr g80) ?_
  replace hq := hq _ rfl
  refine V.aload_n d_Mo_init_119 rfl ?_
  refine V.bipush (x := 90) d_Mo_init_120 (by decide) ?_
  obtain ⟨g82, hq⟩ := hq
  refine V.newa d_Mo_init_122 rfl g82 ?_
  replace hq := hq _ rfl
  replace hq := hq _ rfl
  obtain ⟨g86, hq⟩ := hq
  refine V.put2 d_Mo_init_124 rfl (Or.inr rfl) (List.mem_singleton.mpr g86) ?_
  replace hq := hq _ rfl
  refine V.aload_n d_Mo_init_127 rfl ?_
  refine V.bipush (x := 90) d_Mo_init_128 (by decide) ?_
  obtain ⟨g88, hq⟩ := hq
  refine V.newa d_Mo_init_130 rfl g88 ?_
  replace hq := hq _ rfl
  replace hq := hq _ rfl
  obtain ⟨g92, hq⟩ := hq
  refine V.put2 d_Mo_init_132 rfl (Or.inr rfl) (List.mem_singleton.mpr g92) ?_
  replace hq := hq _ rfl
  refine V.aload_n d_Mo_init_135 rfl ?_
  refine V.bipush (x := 8) d_Mo_init_136 (by decide) ?_
  obtain ⟨g94, hq⟩ := hq
  refine V.newa d_Mo_init_138 rfl g94 ?_
  replace hq := hq _ rfl
  replace hq := hq _ rfl
  obtain ⟨g98, hq⟩ := hq
  refine V.put2 d_Mo_init_140 rfl (Or.inr rfl) (List.mem_singleton.mpr g98) ?_
  replace hq := hq _ rfl
  refine V.aload_n d_Mo_init_143 rfl ?_
  refine V.bipush (x := 8) d_Mo_init_144 (by decide) ?_
  obtain ⟨g100, hq⟩ := hq
  refine V.newa d_Mo_init_146 rfl g100 ?_
  replace hq := hq _ rfl
  replace hq := hq _ rfl
  obtain ⟨g104, hq⟩ := hq
  refine V.put2 d_Mo_init_148 rfl (Or.inr rfl) (List.mem_singleton.mpr g104) ?_
  replace hq := hq _ rfl
  refine V.aload_n d_Mo_init_151 rfl ?_
  refine V.bipush (x := 8) d_Mo_init_152 (by decide) ?_
  obtain ⟨g106, hq⟩ := hq
  refine V.newa d_Mo_init_154 rfl g106 ?_
  replace hq := hq _ rfl
  replace hq := hq _ rfl
  obtain ⟨g110, hq⟩ := hq
  refine V.put2 d_Mo_init_156 rfl (Or.inr rfl) (List.mem_singleton.mpr g110) ?_
  replace hq := hq _ rfl
  refine V.aload_n d_Mo_init_159 rfl ?_
  refine V.bipush (x := 8) d_Mo_init_160 (by decide) ?_
  obtain ⟨g112, hq⟩ := hq
  refine V.newa d_Mo_init_162 rfl g112 ?_
  replace hq := hq _ rfl
  replace hq := hq _ rfl
  obtain ⟨g116, hq⟩ := hq
  refine V.put2 d_Mo_init_164 rfl (Or.inr rfl) (List.mem_singleton.mpr g116) ?_
  replace hq := hq _ rfl
  refine V.aload_n d_Mo_init_167 rfl ?_
  refine V.bipush (x := 90) d_Mo_init_168 (by decide) ?_
  obtain ⟨g118, hq⟩ := hq
  refine V.newa d_Mo_init_170 rfl g118 ?_
  replace hq := hq _ rfl
  replace hq := hq _ rfl
  obtain ⟨g122, hq⟩ := hq
  refine V.put2 d_Mo_init_172 rfl (Or.inr rfl) (List.mem_singleton.mpr g122) ?_
  replace hq := hq _ rfl
  refine V.aload_n d_Mo_init_175 rfl ?_
  refine V.bipush (x := 90) d_Mo_init_176 (by decide) ?_
  obtain ⟨g124, hq⟩ := hq
  refine V.newa d_Mo_init_178 rfl g124 ?_
  replace hq := hq _ rfl
  replace hq := hq _ rfl
  obtain ⟨g128, hq⟩ := hq
  refine V.put2 d_Mo_init_180 rfl (Or.inr rfl) (List.mem_singleton.mpr g128) ?_
  replace hq := hq _ rfl
  refine V.aload_n d_Mo_init_183 rfl ?_
  refine V.bipush (x := 90) d_Mo_init_184 (by decide) ?_
  obtain ⟨g130, hq⟩ := hq
  refine V.newa d_Mo_init_186 rfl g130 ?_
  replace hq := hq _ rfl
  replace hq := hq _ rfl
  obtain ⟨g134, hq⟩ := hq
  refine V.put2 d_Mo_init_188 rfl (Or.inr rfl) (List.mem_singleton.mpr g134) ?_
  replace hq := hq _ rfl
  refine V.aload_n d_Mo_init_191 rfl ?_
  refine V.bipush (x := 90) d_Mo_init_192 (by decide) ?_
  obtain ⟨g136, hq⟩ := hq
  refine V.newa d_Mo_init_194 rfl g136 ?_
  replace hq := hq _ rfl
  replace hq := hq _ rfl
  obtain ⟨g140, hq⟩ := hq
  refine V.put2 d_Mo_init_196 rfl (Or.inr rfl) (List.mem_singleton.mpr g140) ?_
  replace hq := hq _ rfl
  refine V.aload_n d_Mo_init_199 rfl ?_
  refine V.bipush (x := 90) d_Mo_init_200 (by decide) ?_
  obtain ⟨g142, hq⟩ := hq
  refine V.newa d_Mo_init_202 rfl g142 ?_
  replace hq := hq _ rfl
  replace hq := hq _ rfl
  obtain ⟨g146, hq⟩ := hq
  refine V.put2 d_Mo_init_204 rfl (Or.inr rfl) (List.mem_singleton.mpr g146) ?_
  replace hq := hq _ rfl
  refine V.aload_n d_Mo_init_207 rfl ?_
  refine V.bipush (x := 90) d_Mo_init_208 (by decide) ?_
  obtain ⟨g148, hq⟩ := hq
  refine V.newa d_Mo_init_210 rfl g148 ?_
  replace hq := hq _ rfl
  replace hq := hq _ rfl
  obtain ⟨g152, hq⟩ := hq
  refine V.put2 d_Mo_init_212 rfl (Or.inr rfl) (List.mem_singleton.mpr g152) ?_
  replace hq := hq _ rfl
  refine V.aload_n d_Mo_init_215 rfl ?_
  refine V.bipush (x := 8) d_Mo_init_216 (by decide) ?_
  obtain ⟨g154, hq⟩ := hq
  refine V.newa d_Mo_init_218 rfl g154 ?_
  replace hq := hq _ rfl
  replace hq := hq _ rfl
  obtain ⟨g158, hq⟩ := hq
  refine V.put2 d_Mo_init_220 rfl (Or.inr rfl) (List.mem_singleton.mpr g158) ?_
  replace hq := hq _ rfl
  refine V.aload_n d_Mo_init_223 rfl ?_
  refine V.bipush (x := 8) d_Mo_init_224 (by decide) ?_
  obtain ⟨g160, hq⟩ := hq
  refine V.newa d_Mo_init_226 rfl g160 ?_
  replace hq := hq _ rfl
  replace hq := hq _ rfl
  obtain ⟨g164, hq⟩ := hq
  refine V.put2 d_Mo_init_228 rfl (Or.inr rfl) (List.mem_singleton.mpr g164) ?_
  replace hq := hq _ rfl
  refine V.aload_n d_Mo_init_231 rfl ?_
  refine V.bipush (x := 8) d_Mo_init_232 (by decide) ?_
  obtain ⟨g166, hq⟩ := hq
  refine V.newa d_Mo_init_234 rfl g166 ?_
  replace hq := hq _ rfl
  replace hq := hq _ rfl
  obtain ⟨g170, hq⟩ := hq
  refine V.put2 d_Mo_init_236 rfl (Or.inr rfl) (List.mem_singleton.mpr g170) ?_
  replace hq := hq _ rfl
  refine V.aload_n d_Mo_init_239 rfl ?_
  refine V.bipush (x := 8) d_Mo_init_240 (by decide) ?_
  obtain ⟨g172, hq⟩ := hq
  refine V.newa d_Mo_init_242 rfl g172 ?_
  replace hq := hq _ rfl
  replace hq := hq _ rfl
  obtain ⟨g176, hq⟩ := hq
  refine V.put2 d_Mo_init_244 rfl (Or.inr rfl) (List.mem_singleton.mpr g176) ?_
  replace hq := hq _ rfl
  refine V.aload_n d_Mo_init_247 rfl ?_
  refine V.bipush (x := 121) d_Mo_init_248 (by decide) ?_
  obtain ⟨g178, hq⟩ := hq
  refine V.newa d_Mo_init_250 rfl g178 ?_
  replace hq := hq _ rfl
  replace hq := hq _ rfl
  obtain ⟨g182, hq⟩ := hq
  refine V.put2 d_Mo_init_252 rfl (Or.inr rfl) (List.mem_singleton.mpr g182) ?_
  replace hq := hq _ rfl
  refine V.aload_n d_Mo_init_255 rfl ?_
  refine V.sipush (x := 161) d_Mo_init_256 (by decide) ?_
  obtain ⟨g184, hq⟩ := hq
  refine V.newa d_Mo_init_259 rfl g184 ?_
  replace hq := hq _ rfl
  replace hq := hq _ rfl
  obtain ⟨g188, hq⟩ := hq
  refine V.put2 d_Mo_init_261 rfl (Or.inr rfl) (List.mem_singleton.mpr g188) ?_
  replace hq := hq _ rfl
  refine V.vret d_Mo_init_264 rfl ?_
  exact V.rV hq
theorem w_Mo_thrown {d : Nat} {K : Int32 → Hp → Prop} {x0 : Nat} {h0 : Hp} (hq :
  ((hS h0 x0).1 = 8 ∧ K (hI h0 x0 0) h0)) : Ca d m_Mo_thrown [.ref x0] h0 (QI K) := by
  show Wp _ _ 0 [some (.ref x0)] [] h0 _
  refine V.aload_n d_Mo_thrown_0 rfl ?_
  obtain ⟨g1, hq⟩ := hq
  refine V.get0 d_Mo_thrown_1 rfl (List.mem_singleton.mpr g1) ?_
  refine V.iret d_Mo_thrown_4 rfl ?_
  exact V.rI hq
theorem w_Mo_fail {d : Nat} {K : Int32 → Hp → Prop} {x0 : Nat} {x1 : Int32} {h0 : Hp} (hq :
  ((hS h0 x0).1 = 8 ∧ (∀ h2 : Hp, h2 = sI h0 x0 0 x1 → K (0 : Int32) h2))) : Ca d m_Mo_fail [.ref x0, .int x1] h0 (QI K) := by
  show Wp _ _ 0 [some (.ref x0), some (.int x1)] [] h0 _
  refine V.aload_n d_Mo_fail_0 rfl ?_
  refine V.iload_n d_Mo_fail_1 rfl ?_
  obtain ⟨g1, hq⟩ := hq
  refine V.put0 d_Mo_fail_2 rfl (Or.inl rfl) (List.mem_singleton.mpr g1) ?_
  replace hq := hq _ rfl
  refine V.iconst (x := 0) d_Mo_fail_5 (by decide) ?_
  refine V.iret d_Mo_fail_6 rfl ?_
  exact V.rI hq
theorem w_Mo_out {d : Nat} {K : Int32 → Hp → Prop} {x0 : Nat} {x1 : Int32} {x2 : Int32} {h0 : Hp} (hq :
  (if x1 < 0 then K (1 : Int32) h0 else (if x1 < x2 then K (0 : Int32) h0 else K (1 : Int32) h0))) : Ca d m_Mo_out [.ref x0, .int x1, .int x2] h0 (QI K) := by
  show Wp _ _ 0 [some (.ref x0), some (.int x1), some (.int x2)] [] h0 _
  refine V.iload_n d_Mo_out_0 rfl ?_
  refine V.if_lt (t := 9) d_Mo_out_1 ⟨rfl, rfl⟩ (fun hc => ?_) (fun hc => ?_)
  · replace hq := ifp hc hq
    refine V.iconst (x := 1) d_Mo_out_9 (by decide) ?_
    refine V.goto (t := 14) d_Mo_out_10 ⟨rfl, rfl⟩ ?_
    refine V.zret (y := (1 : Int32)) d_Mo_out_14 rfl (by decide) ?_
    exact V.rI hq
  · replace hq := ifn hc hq
    refine V.iload_n d_Mo_out_4 rfl ?_
    refine V.iload_n d_Mo_out_5 rfl ?_
    refine V.ic_lt (t := 13) d_Mo_out_6 ⟨rfl, rfl⟩ (fun hc => ?_) (fun hc => ?_)
    · replace hq := ifp hc hq
      refine V.iconst (x := 0) d_Mo_out_13 (by decide) ?_
      refine V.zret (y := (0 : Int32)) d_Mo_out_14 rfl (by decide) ?_
      exact V.rI hq
    · replace hq := ifn hc hq
      refine V.iconst (x := 1) d_Mo_out_9 (by decide) ?_
      refine V.goto (t := 14) d_Mo_out_10 ⟨rfl, rfl⟩ ?_
      refine V.zret (y := (1 : Int32)) d_Mo_out_14 rfl (by decide) ?_
      exact V.rI hq
theorem w_Mo_isDigit {d : Nat} {K : Int32 → Hp → Prop} {x0 : Nat} {x1 : Int32} {h0 : Hp} (hq :
  (if x1 < (48 : Int32) then K (0 : Int32) h0 else (if (57 : Int32) < x1 then K (0 : Int32) h0 else K (1 : Int32) h0))) : Ca d m_Mo_isDigit [.ref x0, .int x1] h0 (QI K) := by
  show Wp _ _ 0 [some (.ref x0), some (.int x1)] [] h0 _
  refine V.iload_n d_Mo_isDigit_0 rfl ?_
  refine V.bipush (x := 48) d_Mo_isDigit_1 (by decide) ?_
  refine V.ic_lt (t := 16) d_Mo_isDigit_3 ⟨rfl, rfl⟩ (fun hc => ?_) (fun hc => ?_)
  · replace hq := ifp hc hq
    refine V.iconst (x := 0) d_Mo_isDigit_16 (by decide) ?_
    refine V.zret (y := (0 : Int32)) d_Mo_isDigit_17 rfl (by decide) ?_
    exact V.rI hq
  · replace hq := ifn hc hq
    refine V.iload_n d_Mo_isDigit_6 rfl ?_
    refine V.bipush (x := 57) d_Mo_isDigit_7 (by decide) ?_
    refine V.ic_gt (t := 16) d_Mo_isDigit_9 ⟨rfl, rfl⟩ (fun hc => ?_) (fun hc => ?_)
    · replace hq := ifp hc hq
      refine V.iconst (x := 0) d_Mo_isDigit_16 (by decide) ?_
      refine V.zret (y := (0 : Int32)) d_Mo_isDigit_17 rfl (by decide) ?_
      exact V.rI hq
    · replace hq := ifn hc hq
      refine V.iconst (x := 1) d_Mo_isDigit_12 (by decide) ?_
      refine V.goto (t := 17) d_Mo_isDigit_13 ⟨rfl, rfl⟩ ?_
      refine V.zret (y := (1 : Int32)) d_Mo_isDigit_17 rfl (by decide) ?_
      exact V.rI hq
theorem w_Mo_sized {d : Nat} {K : Int32 → Hp → Prop} {x0 : Nat} {x1 : Int32} {h0 : Hp} (hq :
  (if x1 = (117 : Int32) then K (1 : Int32) h0 else (if x1 = (118 : Int32) then K (1 : Int32) h0 else (if x1 = (115 : Int32) then K (1 : Int32) h0 else (if x1 = (112 : Int32) then K (1 : Int32) h0 else K (0 : Int32) h0))))) : Ca d m_Mo_sized [.ref x0, .int x1] h0 (QI K) := by
  show Wp _ _ 0 [some (.ref x0), some (.int x1)] [] h0 _
  refine V.iload_n d_Mo_sized_0 rfl ?_
  refine V.bipush (x := 117) d_Mo_sized_1 (by decide) ?_
  refine V.ic_eq (t := 24) d_Mo_sized_3 ⟨rfl, rfl⟩ (fun hc => ?_) (fun hc => ?_)
  · replace hq := ifp hc hq
    refine V.iconst (x := 1) d_Mo_sized_24 (by decide) ?_
    refine V.goto (t := 29) d_Mo_sized_25 ⟨rfl, rfl⟩ ?_
    refine V.zret (y := (1 : Int32)) d_Mo_sized_29 rfl (by decide) ?_
    exact V.rI hq
  · replace hq := ifn hc hq
    refine V.iload_n d_Mo_sized_6 rfl ?_
    refine V.bipush (x := 118) d_Mo_sized_7 (by decide) ?_
    refine V.ic_eq (t := 24) d_Mo_sized_9 ⟨rfl, rfl⟩ (fun hc => ?_) (fun hc => ?_)
    · replace hq := ifp hc hq
      refine V.iconst (x := 1) d_Mo_sized_24 (by decide) ?_
      refine V.goto (t := 29) d_Mo_sized_25 ⟨rfl, rfl⟩ ?_
      refine V.zret (y := (1 : Int32)) d_Mo_sized_29 rfl (by decide) ?_
      exact V.rI hq
    · replace hq := ifn hc hq
      refine V.iload_n d_Mo_sized_12 rfl ?_
      refine V.bipush (x := 115) d_Mo_sized_13 (by decide) ?_
      refine V.ic_eq (t := 24) d_Mo_sized_15 ⟨rfl, rfl⟩ (fun hc => ?_) (fun hc => ?_)
      · replace hq := ifp hc hq
        refine V.iconst (x := 1) d_Mo_sized_24 (by decide) ?_
        refine V.goto (t := 29) d_Mo_sized_25 ⟨rfl, rfl⟩ ?_
        refine V.zret (y := (1 : Int32)) d_Mo_sized_29 rfl (by decide) ?_
        exact V.rI hq
      · replace hq := ifn hc hq
        refine V.iload_n d_Mo_sized_18 rfl ?_
        refine V.bipush (x := 112) d_Mo_sized_19 (by decide) ?_
        refine V.ic_ne (t := 28) d_Mo_sized_21 ⟨rfl, rfl⟩ (fun hc => ?_) (fun hc => ?_)
        · replace hq := ifp hc hq
          refine V.iconst (x := 1) d_Mo_sized_24 (by decide) ?_
          refine V.goto (t := 29) d_Mo_sized_25 ⟨rfl, rfl⟩ ?_
          refine V.zret (y := (1 : Int32)) d_Mo_sized_29 rfl (by decide) ?_
          exact V.rI hq
        · replace hq := ifn hc hq
          refine V.iconst (x := 0) d_Mo_sized_28 (by decide) ?_
          refine V.zret (y := (0 : Int32)) d_Mo_sized_29 rfl (by decide) ?_
          exact V.rI hq
theorem w_Mo_type {d : Nat} {K : Int32 → Hp → Prop} {x0 : Nat} {x1 : Int64} {h0 : Hp} (hq :
  ((hS h0 x0).1 = 8 ∧ (∀ h2 : Hp, h2 = sI h0 x0 0 (0 : Int32) → Wp (d + 1) m_Mo_type 10 [some (.ref x0), some (.long x1), none, some (.int (0 : Int32)), some (.int (0 : Int32)), none] [] h2 (QI K)))) : Ca (d + 1) m_Mo_type [.ref x0, .long x1] h0 (QI K) := by
  show Wp _ _ 0 [some (.ref x0), some (.long x1), none, none, none, none] [] h0 _
  refine V.aload_n d_Mo_type_0 rfl ?_
  refine V.iconst (x := 0) d_Mo_type_1 (by decide) ?_
  obtain ⟨g1, hq⟩ := hq
  refine V.put0 d_Mo_type_2 rfl (Or.inl rfl) (List.mem_singleton.mpr g1) ?_
  replace hq := hq _ rfl
  refine V.iconst (x := 0) d_Mo_type_5 (by decide) ?_
  refine V.istore_n (l' := [_, _, _, _, _, _]) d_Mo_type_6 rfl (ltb rfl) ?_
  refine V.iconst (x := 0) d_Mo_type_7 (by decide) ?_
  refine V.istore (l' := [_, _, _, _, _, _]) d_Mo_type_8 rfl (ltb rfl) ?_
  exact hq
theorem w_Mo_type_10 {d : Nat} {K : Int32 → Hp → Prop} {x0 : Nat} {x1 : Int64} {x3 : Int32} {x4 : Int32} {y5 : Option Value} {h0 : Hp} (hq :
  (if x4 < (8 : Int32) then (∀ v3 : Int32, v3 = (((x1 >>> (((8 : Int32) * x4).toInt64 &&& 63)).toInt32) &&& (255 : Int32)) → (if v3 = 0 then Wp (d + 1) m_Mo_type 56 [some (.ref x0), some (.long x1), none, some (.int x3), some (.int x4), some (.int v3)] [] h0 (QI K) else (if v3 < (33 : Int32) then ((hS h0 x0).1 = 8 ∧ Ca d m_Mo_fail [.ref x0, .int (1 : Int32)] h0 (QI (fun v5 h6 => K v5 h6))) else (if (126 : Int32) < v3 then ((hS h0 x0).1 = 8 ∧ Ca d m_Mo_fail [.ref x0, .int (1 : Int32)] h0 (QI (fun v9 h10 => K v9 h10))) else Wp (d + 1) m_Mo_type 56 [some (.ref x0), some (.long x1), none, some (.int x3), some (.int x4), some (.int v3)] [] h0 (QI K))))) else ((hS h0 x0).1 = 8 ∧ (if (90 : Int32) < ((hI h0 x0 2) + x3) then Ca d m_Mo_fail [.ref x0, .int (2 : Int32)] h0 (QI (fun v13 h14 => K v13 h14)) else Wp (d + 1) m_Mo_type 96 [some (.ref x0), some (.long x1), none, some (.int x3), some (.int (7 : Int32)), y5] [] h0 (QI K))))) : Wp (d + 1) m_Mo_type 10 [some (.ref x0), some (.long x1), none, some (.int x3), some (.int x4), y5] [] h0 (QI K) := by
  refine V.iload d_Mo_type_10 rfl ?_
  refine V.bipush (x := 8) d_Mo_type_12 (by decide) ?_
  refine V.ic_ge (t := 75) d_Mo_type_14 ⟨rfl, rfl⟩ (fun hc => ?_) (fun hc => ?_)
  · replace hq := ifp hc hq
    refine V.lload_n d_Mo_type_17 rfl ?_
    refine V.bipush (x := 8) d_Mo_type_18 (by decide) ?_
    refine V.iload d_Mo_type_20 rfl ?_
    refine V.imul d_Mo_type_22 ?_
    refine V.lshr d_Mo_type_23 ?_
    refine V.l2i d_Mo_type_24 ?_
    refine V.sipush (x := 255) d_Mo_type_25 (by decide) ?_
    refine V.iand d_Mo_type_28 ?_
    replace hq := hq _ rfl
    refine V.istore (l' := [_, _, _, _, _, _]) d_Mo_type_29 rfl (ltb rfl) ?_
    refine V.iload d_Mo_type_31 rfl ?_
    refine V.if_eq (t := 56) d_Mo_type_33 ⟨rfl, rfl⟩ (fun hc => ?_) (fun hc => ?_)
    · replace hq := ifp hc hq
      exact hq
    · replace hq := ifn hc hq
      refine V.iload d_Mo_type_36 rfl ?_
      refine V.bipush (x := 33) d_Mo_type_38 (by decide) ?_
      refine V.ic_lt (t := 50) d_Mo_type_40 ⟨rfl, rfl⟩ (fun hc => ?_) (fun hc => ?_)
      · replace hq := ifp hc hq
        refine V.aload_n d_Mo_type_50 rfl ?_
        refine V.iconst (x := 1) d_Mo_type_51 (by decide) ?_
        obtain ⟨g4, hq⟩ := hq
        refine V.callI d_Mo_type_52 (cV_call (t := [_]) (rs := []) rfl (Or.inl rfl) rfl (lk1 g4) ⟨leb rfl, leb rfl⟩) hq (fun v5 h6 hq => ?_)
        refine V.iret d_Mo_type_55 rfl ?_
        exact V.rI hq
      · replace hq := ifn hc hq
        refine V.iload d_Mo_type_43 rfl ?_
        refine V.bipush (x := 126) d_Mo_type_45 (by decide) ?_
        refine V.ic_le (t := 56) d_Mo_type_47 ⟨rfl, rfl⟩ (fun hc => ?_) (fun hc => ?_)
        · replace hq := ifp hc hq
          refine V.aload_n d_Mo_type_50 rfl ?_
          refine V.iconst (x := 1) d_Mo_type_51 (by decide) ?_
          obtain ⟨g8, hq⟩ := hq
          refine V.callI d_Mo_type_52 (cV_call (t := [_]) (rs := []) rfl (Or.inl rfl) rfl (lk1 g8) ⟨leb rfl, leb rfl⟩) hq (fun v9 h10 hq => ?_)
          refine V.iret d_Mo_type_55 rfl ?_
          exact V.rI hq
        · replace hq := ifn hc hq
          exact hq
  · replace hq := ifn hc hq
    refine V.aload_n d_Mo_type_75 rfl ?_
    obtain ⟨g12, hq⟩ := hq
    refine V.get0 d_Mo_type_76 rfl (List.mem_singleton.mpr g12) ?_
    refine V.iload_n d_Mo_type_79 rfl ?_
    refine V.iadd d_Mo_type_80 ?_
    refine V.bipush (x := 90) d_Mo_type_81 (by decide) ?_
    refine V.ic_le (t := 92) d_Mo_type_83 ⟨rfl, rfl⟩ (fun hc => ?_) (fun hc => ?_)
    · replace hq := ifp hc hq
      refine V.aload_n d_Mo_type_86 rfl ?_
      refine V.iconst (x := 2) d_Mo_type_87 (by decide) ?_
      refine V.callI d_Mo_type_88 (cV_call (t := [_]) (rs := []) rfl (Or.inl rfl) rfl (lk1 g12) ⟨leb rfl, leb rfl⟩) hq (fun v13 h14 hq => ?_)
      refine V.iret d_Mo_type_91 rfl ?_
      exact V.rI hq
    · replace hq := ifn hc hq
      refine V.bipush (x := 7) d_Mo_type_92 (by decide) ?_
      refine V.istore (l' := [_, _, _, _, _, _]) d_Mo_type_94 rfl (ltb rfl) ?_
      exact hq
theorem w_Mo_type_56 {d : Nat} {K : Int32 → Hp → Prop} {x0 : Nat} {x1 : Int64} {x3 : Int32} {x4 : Int32} {x5 : Int32} {h0 : Hp} (hq :
  (if x5 = 0 then (∀ v16 : Int32, v16 = (x3 + (0 : Int32)) → (∀ v17 : Int32, v17 = (x4 + 1) → Wp (d + 1) m_Mo_type 10 [some (.ref x0), some (.long x1), none, some (.int v16), some (.int v17), some (.int x5)] [] h0 (QI K))) else (∀ v18 : Int32, v18 = (x3 + (1 : Int32)) → (∀ v19 : Int32, v19 = (x4 + 1) → Wp (d + 1) m_Mo_type 10 [some (.ref x0), some (.long x1), none, some (.int v18), some (.int v19), some (.int x5)] [] h0 (QI K))))) : Wp (d + 1) m_Mo_type 56 [some (.ref x0), some (.long x1), none, some (.int x3), some (.int x4), some (.int x5)] [] h0 (QI K) := by
  refine V.iload_n d_Mo_type_56 rfl ?_
  refine V.iload d_Mo_type_57 rfl ?_
  refine V.if_eq (t := 66) d_Mo_type_59 ⟨rfl, rfl⟩ (fun hc => ?_) (fun hc => ?_)
  · replace hq := ifp hc hq
    refine V.iconst (x := 0) d_Mo_type_66 (by decide) ?_
    refine V.iadd d_Mo_type_67 ?_
    replace hq := hq _ rfl
    refine V.istore_n (l' := [_, _, _, _, _, _]) d_Mo_type_68 rfl (ltb rfl) ?_
    replace hq := hq _ rfl
    refine V.iinc (l' := [_, _, _, _, _, _]) d_Mo_type_69 rfl (show _ + _ = _ + (1 : Int32) from rfl) rfl ?_
    refine V.goto (t := 10) d_Mo_type_72 ⟨rfl, rfl⟩ ?_
    exact hq
  · replace hq := ifn hc hq
    refine V.iconst (x := 1) d_Mo_type_62 (by decide) ?_
    refine V.goto (t := 67) d_Mo_type_63 ⟨rfl, rfl⟩ ?_
    refine V.iadd d_Mo_type_67 ?_
    replace hq := hq _ rfl
    refine V.istore_n (l' := [_, _, _, _, _, _]) d_Mo_type_68 rfl (ltb rfl) ?_
    replace hq := hq _ rfl
    refine V.iinc (l' := [_, _, _, _, _, _]) d_Mo_type_69 rfl (show _ + _ = _ + (1 : Int32) from rfl) rfl ?_
    refine V.goto (t := 10) d_Mo_type_72 ⟨rfl, rfl⟩ ?_
    exact hq
theorem w_Mo_type_96 {d : Nat} {K : Int32 → Hp → Prop} {x0 : Nat} {x1 : Int64} {y3 : Option Value} {x4 : Int32} {y5 : Option Value} {h0 : Hp} (hq :
  (if x4 < 0 then ((hS h0 x0).1 = 8 ∧ K (hI h0 x0 2) h0) else (∀ v21 : Int32, v21 = (((x1 >>> (((8 : Int32) * x4).toInt64 &&& 63)).toInt32) &&& (255 : Int32)) → (if v21 = 0 then (∀ v22 : Int32, v22 = (x4 + (-1)) → Wp (d + 1) m_Mo_type 96 [some (.ref x0), some (.long x1), none, (yk y3), some (.int v22), some (.int v21)] [] h0 (QI K)) else ((hS h0 x0).1 = 8 ∧ ((hS h0 (hR h0 x0 1)).1 = 20 ∧ (¬ (hR h0 x0 1) = 1 ∧ (ainr (hI h0 x0 2) (hS h0 (hR h0 x0 1)).2 = true ∧ (∀ h27 : Hp, h27 = sI h0 (hR h0 x0 1) (hI h0 x0 2).toNatClampNeg v21 → (∀ h28 : Hp, h28 = sI h27 x0 2 ((hI h27 x0 2) + (1 : Int32)) → (∀ v29 : Int32, v29 = (x4 + (-1)) → Wp (d + 1) m_Mo_type 96 [some (.ref x0), some (.long x1), none, (yk y3), some (.int v29), some (.int v21)] [] h28 (QI K)))))))))))) : Wp (d + 1) m_Mo_type 96 [some (.ref x0), some (.long x1), none, y3, some (.int x4), y5] [] h0 (QI K) := by
  refine V.iload d_Mo_type_96 rfl ?_
  refine V.if_lt (t := 147) d_Mo_type_98 ⟨rfl, rfl⟩ (fun hc => ?_) (fun hc => ?_)
  · replace hq := ifp hc hq
    refine V.aload_n d_Mo_type_147 rfl ?_
    obtain ⟨g20, hq⟩ := hq
    refine V.get0 d_Mo_type_148 rfl (List.mem_singleton.mpr g20) ?_
    refine V.iret d_Mo_type_151 rfl ?_
    exact V.rI hq
  · replace hq := ifn hc hq
    refine V.lload_n d_Mo_type_101 rfl ?_
    refine V.bipush (x := 8) d_Mo_type_102 (by decide) ?_
    refine V.iload d_Mo_type_104 rfl ?_
    refine V.imul d_Mo_type_106 ?_
    refine V.lshr d_Mo_type_107 ?_
    refine V.l2i d_Mo_type_108 ?_
    refine V.sipush (x := 255) d_Mo_type_109 (by decide) ?_
    refine V.iand d_Mo_type_112 ?_
    replace hq := hq _ rfl
    refine V.istore (l' := [_, _, _, _, _, _]) d_Mo_type_113 rfl (ltb rfl) ?_
    refine V.iload d_Mo_type_115 rfl ?_
    refine V.if_eq (t := 141) d_Mo_type_117 ⟨rfl, rfl⟩ (fun hc => ?_) (fun hc => ?_)
    · replace hq := ifp hc hq
      replace hq := hq _ rfl
      refine V.iinc (l' := [_, _, _, _, _, _]) d_Mo_type_141 rfl (show _ + _ = _ + (-1 : Int32) from rfl) ((st1_alt (ltb rfl)).trans rfl) ?_
      refine V.goto (t := 96) d_Mo_type_144 ⟨rfl, rfl⟩ ?_
      exact hq
    · replace hq := ifn hc hq
      refine V.aload_n d_Mo_type_120 rfl ?_
      obtain ⟨g23, hq⟩ := hq
      refine V.get2 d_Mo_type_121 rfl (List.mem_singleton.mpr g23) ?_
      refine V.aload_n d_Mo_type_124 rfl ?_
      refine V.get0 d_Mo_type_125 rfl (List.mem_singleton.mpr g23) ?_
      refine V.iload d_Mo_type_128 rfl ?_
      obtain ⟨g24, hq⟩ := hq
      obtain ⟨g25, hq⟩ := hq
      obtain ⟨g26, hq⟩ := hq
      refine V.iastore d_Mo_type_130 g24 g25 g26 ?_
      replace hq := hq _ rfl
      refine V.aload_n d_Mo_type_131 rfl ?_
      refine V.dupR d_Mo_type_132 ?_
      refine V.get0 d_Mo_type_133 rfl (List.mem_singleton.mpr g23) ?_
      refine V.iconst (x := 1) d_Mo_type_136 (by decide) ?_
      refine V.iadd d_Mo_type_137 ?_
      refine V.put0 d_Mo_type_138 rfl (Or.inl rfl) (List.mem_singleton.mpr g23) ?_
      replace hq := hq _ rfl
      replace hq := hq _ rfl
      refine V.iinc (l' := [_, _, _, _, _, _]) d_Mo_type_141 rfl (show _ + _ = _ + (-1 : Int32) from rfl) ((st1_alt (ltb rfl)).trans rfl) ?_
      refine V.goto (t := 96) d_Mo_type_144 ⟨rfl, rfl⟩ ?_
      exact hq
theorem w_Mo_clear {d : Nat} {K : Int32 → Hp → Prop} {x0 : Nat} {h0 : Hp} (hq :
  ((hS h0 x0).1 = 8 ∧ (∀ h2 : Hp, h2 = sI h0 x0 0 (0 : Int32) → (∀ v3 : Int32, v3 = (hI h2 x0 2) → (∀ h4 : Hp, h4 = sI h2 x0 2 (0 : Int32) → K v3 h4))))) : Ca d m_Mo_clear [.ref x0] h0 (QI K) := by
  show Wp _ _ 0 [some (.ref x0), none] [] h0 _
  refine V.aload_n d_Mo_clear_0 rfl ?_
  refine V.iconst (x := 0) d_Mo_clear_1 (by decide) ?_
  obtain ⟨g1, hq⟩ := hq
  refine V.put0 d_Mo_clear_2 rfl (Or.inl rfl) (List.mem_singleton.mpr g1) ?_
  replace hq := hq _ rfl
  refine V.aload_n d_Mo_clear_5 rfl ?_
  refine V.get0 d_Mo_clear_6 rfl (List.mem_singleton.mpr g1) ?_
  replace hq := hq _ rfl
  refine V.istore_n (l' := [_, _]) d_Mo_clear_9 rfl (ltb rfl) ?_
  refine V.aload_n d_Mo_clear_10 rfl ?_
  refine V.iconst (x := 0) d_Mo_clear_11 (by decide) ?_
  refine V.put0 d_Mo_clear_12 rfl (Or.inl rfl) (List.mem_singleton.mpr g1) ?_
  replace hq := hq _ rfl
  refine V.iload_n d_Mo_clear_15 rfl ?_
  refine V.iret d_Mo_clear_16 rfl ?_
  exact V.rI hq
theorem w_Mo_finish {d : Nat} {K : Hp → Prop} {x0 : Nat} {h0 : Hp} (hq :
  ((hS h0 x0).1 = 8 ∧ (∀ h2 : Hp, h2 = sI h0 x0 28 ((hI h0 x0 28) - (1 : Int32)) → Wp d m_Mo_finish 10 [some (.ref x0)] [] h2 (QV K)))) : Ca d m_Mo_finish [.ref x0] h0 (QV K) := by
  show Wp _ _ 0 [some (.ref x0)] [] h0 _
  refine V.aload_n d_Mo_finish_0 rfl ?_
  refine V.dupR d_Mo_finish_1 ?_
  obtain ⟨g1, hq⟩ := hq
  refine V.get0 d_Mo_finish_2 rfl (List.mem_singleton.mpr g1) ?_
  refine V.iconst (x := 1) d_Mo_finish_5 (by decide) ?_
  refine V.isub d_Mo_finish_6 ?_
  refine V.put0 d_Mo_finish_7 rfl (Or.inl rfl) (List.mem_singleton.mpr g1) ?_
  replace hq := hq _ rfl
  exact hq
theorem w_Mo_finish_10 {d : Nat} {K : Hp → Prop} {x0 : Nat} {h0 : Hp} (hq :
  ((hS h0 x0).1 = 8 ∧ (if 0 < (hI h0 x0 28) then ((hS h0 (hR h0 x0 24)).1 = 20 ∧ (ainr ((hI h0 x0 28) - (1 : Int32)) (hS h0 (hR h0 x0 24)).2 = true ∧ ((hS h0 (hR h0 x0 12)).1 = 20 ∧ (ainr (hI h0 (hR h0 x0 24) ((hI h0 x0 28) - (1 : Int32)).toNatClampNeg) (hS h0 (hR h0 x0 12)).2 = true ∧ (if (hI h0 (hR h0 x0 12) (hI h0 (hR h0 x0 24) ((hI h0 x0 28) - (1 : Int32)).toNatClampNeg).toNatClampNeg) = (42 : Int32) then (∀ h8 : Hp, h8 = sI h0 x0 28 ((hI h0 x0 28) - (1 : Int32)) → Wp d m_Mo_finish 10 [some (.ref x0)] [] h8 (QV K)) else (if (hI h0 (hR h0 x0 12) (hI h0 (hR h0 x0 24) ((hI h0 x0 28) - (1 : Int32)).toNatClampNeg).toNatClampNeg) = (47 : Int32) then (∀ h9 : Hp, h9 = sI h0 x0 28 ((hI h0 x0 28) - (1 : Int32)) → Wp d m_Mo_finish 10 [some (.ref x0)] [] h9 (QV K)) else Wp d m_Mo_finish 72 [some (.ref x0)] [] h0 (QV K))))))) else Wp d m_Mo_finish 72 [some (.ref x0)] [] h0 (QV K)))) : Wp d m_Mo_finish 10 [some (.ref x0)] [] h0 (QV K) := by
  refine V.aload_n d_Mo_finish_10 rfl ?_
  obtain ⟨g3, hq⟩ := hq
  refine V.get0 d_Mo_finish_11 rfl (List.mem_singleton.mpr g3) ?_
  refine V.if_le (t := 72) d_Mo_finish_14 ⟨rfl, rfl⟩ (fun hc => ?_) (fun hc => ?_)
  · replace hq := ifp hc hq
    refine V.aload_n d_Mo_finish_17 rfl ?_
    refine V.get2 d_Mo_finish_18 rfl (List.mem_singleton.mpr g3) ?_
    refine V.aload_n d_Mo_finish_21 rfl ?_
    refine V.get2 d_Mo_finish_22 rfl (List.mem_singleton.mpr g3) ?_
    refine V.aload_n d_Mo_finish_25 rfl ?_
    refine V.get0 d_Mo_finish_26 rfl (List.mem_singleton.mpr g3) ?_
    refine V.iconst (x := 1) d_Mo_finish_29 (by decide) ?_
    refine V.isub d_Mo_finish_30 ?_
    obtain ⟨g4, hq⟩ := hq
    obtain ⟨g5, hq⟩ := hq
    refine V.iaload d_Mo_finish_31 g4 g5 ?_
    obtain ⟨g6, hq⟩ := hq
    obtain ⟨g7, hq⟩ := hq
    refine V.iaload d_Mo_finish_32 g6 g7 ?_
    refine V.bipush (x := 42) d_Mo_finish_33 (by decide) ?_
    refine V.ic_eq (t := 59) d_Mo_finish_35 ⟨rfl, rfl⟩ (fun hc => ?_) (fun hc => ?_)
    · replace hq := ifp hc hq
      refine V.aload_n d_Mo_finish_59 rfl ?_
      refine V.dupR d_Mo_finish_60 ?_
      refine V.get0 d_Mo_finish_61 rfl (List.mem_singleton.mpr g3) ?_
      refine V.iconst (x := 1) d_Mo_finish_64 (by decide) ?_
      refine V.isub d_Mo_finish_65 ?_
      refine V.put0 d_Mo_finish_66 rfl (Or.inl rfl) (List.mem_singleton.mpr g3) ?_
      replace hq := hq _ rfl
      refine V.goto (t := 10) d_Mo_finish_69 ⟨rfl, rfl⟩ ?_
      exact hq
    · replace hq := ifn hc hq
      refine V.aload_n d_Mo_finish_38 rfl ?_
      refine V.get2 d_Mo_finish_39 rfl (List.mem_singleton.mpr g3) ?_
      refine V.aload_n d_Mo_finish_42 rfl ?_
      refine V.get2 d_Mo_finish_43 rfl (List.mem_singleton.mpr g3) ?_
      refine V.aload_n d_Mo_finish_46 rfl ?_
      refine V.get0 d_Mo_finish_47 rfl (List.mem_singleton.mpr g3) ?_
      refine V.iconst (x := 1) d_Mo_finish_50 (by decide) ?_
      refine V.isub d_Mo_finish_51 ?_
      refine V.iaload d_Mo_finish_52 g4 g5 ?_
      refine V.iaload d_Mo_finish_53 g6 g7 ?_
      refine V.bipush (x := 47) d_Mo_finish_54 (by decide) ?_
      refine V.ic_ne (t := 72) d_Mo_finish_56 ⟨rfl, rfl⟩ (fun hc => ?_) (fun hc => ?_)
      · replace hq := ifp hc hq
        refine V.aload_n d_Mo_finish_59 rfl ?_
        refine V.dupR d_Mo_finish_60 ?_
        refine V.get0 d_Mo_finish_61 rfl (List.mem_singleton.mpr g3) ?_
        refine V.iconst (x := 1) d_Mo_finish_64 (by decide) ?_
        refine V.isub d_Mo_finish_65 ?_
        refine V.put0 d_Mo_finish_66 rfl (Or.inl rfl) (List.mem_singleton.mpr g3) ?_
        replace hq := hq _ rfl
        refine V.goto (t := 10) d_Mo_finish_69 ⟨rfl, rfl⟩ ?_
        exact hq
      · replace hq := ifn hc hq
        exact hq
  · replace hq := ifn hc hq
    exact hq
theorem w_Mo_finish_72 {d : Nat} {K : Hp → Prop} {x0 : Nat} {h0 : Hp} (hq :
  ((hS h0 x0).1 = 8 ∧ (if 0 < (hI h0 x0 28) then ((hS h0 (hR h0 x0 24)).1 = 20 ∧ (ainr ((hI h0 x0 28) - (1 : Int32)) (hS h0 (hR h0 x0 24)).2 = true ∧ ((hS h0 (hR h0 x0 12)).1 = 20 ∧ (ainr (hI h0 (hR h0 x0 24) ((hI h0 x0 28) - (1 : Int32)).toNatClampNeg) (hS h0 (hR h0 x0 12)).2 = true ∧ (if (hI h0 (hR h0 x0 12) (hI h0 (hR h0 x0 24) ((hI h0 x0 28) - (1 : Int32)).toNatClampNeg).toNatClampNeg) = (123 : Int32) then ((hS h0 (hR h0 x0 25)).1 = 20 ∧ (¬ (hR h0 x0 25) = 1 ∧ (ainr ((hI h0 x0 28) - (1 : Int32)) (hS h0 (hR h0 x0 25)).2 = true ∧ (∀ h18 : Hp, h18 = sI h0 (hR h0 x0 25) ((hI h0 x0 28) - (1 : Int32)).toNatClampNeg (3 : Int32) → K h18)))) else ((hS h0 (hR h0 x0 25)).1 = 20 ∧ (¬ (hR h0 x0 25) = 1 ∧ (ainr ((hI h0 x0 28) - (1 : Int32)) (hS h0 (hR h0 x0 25)).2 = true ∧ (∀ h22 : Hp, h22 = sI h0 (hR h0 x0 25) ((hI h0 x0 28) - (1 : Int32)).toNatClampNeg (5 : Int32) → K h22))))))))) else K h0))) : Wp d m_Mo_finish 72 [some (.ref x0)] [] h0 (QV K) := by
  refine V.aload_n d_Mo_finish_72 rfl ?_
  obtain ⟨g10, hq⟩ := hq
  refine V.get0 d_Mo_finish_73 rfl (List.mem_singleton.mpr g10) ?_
  refine V.if_le (t := 116) d_Mo_finish_76 ⟨rfl, rfl⟩ (fun hc => ?_) (fun hc => ?_)
  · replace hq := ifp hc hq
    refine V.aload_n d_Mo_finish_79 rfl ?_
    refine V.get2 d_Mo_finish_80 rfl (List.mem_singleton.mpr g10) ?_
    refine V.aload_n d_Mo_finish_83 rfl ?_
    refine V.get0 d_Mo_finish_84 rfl (List.mem_singleton.mpr g10) ?_
    refine V.iconst (x := 1) d_Mo_finish_87 (by decide) ?_
    refine V.isub d_Mo_finish_88 ?_
    refine V.aload_n d_Mo_finish_89 rfl ?_
    refine V.get2 d_Mo_finish_90 rfl (List.mem_singleton.mpr g10) ?_
    refine V.aload_n d_Mo_finish_93 rfl ?_
    refine V.get2 d_Mo_finish_94 rfl (List.mem_singleton.mpr g10) ?_
    refine V.aload_n d_Mo_finish_97 rfl ?_
    refine V.get0 d_Mo_finish_98 rfl (List.mem_singleton.mpr g10) ?_
    refine V.iconst (x := 1) d_Mo_finish_101 (by decide) ?_
    refine V.isub d_Mo_finish_102 ?_
    obtain ⟨g11, hq⟩ := hq
    obtain ⟨g12, hq⟩ := hq
    refine V.iaload d_Mo_finish_103 g11 g12 ?_
    obtain ⟨g13, hq⟩ := hq
    obtain ⟨g14, hq⟩ := hq
    refine V.iaload d_Mo_finish_104 g13 g14 ?_
    refine V.bipush (x := 123) d_Mo_finish_105 (by decide) ?_
    refine V.ic_ne (t := 114) d_Mo_finish_107 ⟨rfl, rfl⟩ (fun hc => ?_) (fun hc => ?_)
    · replace hq := ifp hc hq
      refine V.iconst (x := 3) d_Mo_finish_110 (by decide) ?_
      refine V.goto (t := 115) d_Mo_finish_111 ⟨rfl, rfl⟩ ?_
      obtain ⟨g15, hq⟩ := hq
      obtain ⟨g16, hq⟩ := hq
      obtain ⟨g17, hq⟩ := hq
      refine V.iastore d_Mo_finish_115 g15 g16 g17 ?_
      replace hq := hq _ rfl
      refine V.vret d_Mo_finish_116 rfl ?_
      exact V.rV hq
    · replace hq := ifn hc hq
      refine V.iconst (x := 5) d_Mo_finish_114 (by decide) ?_
      obtain ⟨g19, hq⟩ := hq
      obtain ⟨g20, hq⟩ := hq
      obtain ⟨g21, hq⟩ := hq
      refine V.iastore d_Mo_finish_115 g19 g20 g21 ?_
      replace hq := hq _ rfl
      refine V.vret d_Mo_finish_116 rfl ?_
      exact V.rV hq
  · replace hq := ifn hc hq
    refine V.vret d_Mo_finish_116 rfl ?_
    exact V.rV hq
theorem w_Mo_beginType {d : Nat} {K : Int32 → Hp → Prop} {x0 : Nat} {x1 : Int32} {h0 : Hp} (hq :
  (if x1 = (102 : Int32) then Wp (d + 1) m_Mo_beginType 24 [some (.ref x0), some (.int x1), none, none, none] [] h0 (QI K) else (if x1 = (100 : Int32) then Wp (d + 1) m_Mo_beginType 24 [some (.ref x0), some (.int x1), none, none, none] [] h0 (QI K) else (if x1 = (122 : Int32) then Wp (d + 1) m_Mo_beginType 24 [some (.ref x0), some (.int x1), none, none, none] [] h0 (QI K) else (if x1 = (114 : Int32) then Wp (d + 1) m_Mo_beginType 24 [some (.ref x0), some (.int x1), none, none, none] [] h0 (QI K) else (if x1 = (42 : Int32) then Wp (d + 1) m_Mo_beginType 48 [some (.ref x0), some (.int x1), some (.int (0 : Int32)), none, none] [] h0 (QI K) else (if x1 = (47 : Int32) then Wp (d + 1) m_Mo_beginType 48 [some (.ref x0), some (.int x1), some (.int (0 : Int32)), none, none] [] h0 (QI K) else (if x1 = (63 : Int32) then Wp (d + 1) m_Mo_beginType 48 [some (.ref x0), some (.int x1), some (.int (0 : Int32)), none, none] [] h0 (QI K) else (if (0 : Int32) = 0 then (if (0 : Int32) = 0 then ((hS h0 x0).1 = 8 ∧ Ca d m_Mo_sized [.ref x0, .int x1] h0 (QI (fun v2 h3 => (if v2 = 0 then (if x1 = (123 : Int32) then Wp (d + 1) m_Mo_beginType 76 [some (.ref x0), some (.int x1), some (.int (0 : Int32)), some (.int (0 : Int32)), none] [] h3 (QI K) else K (0 : Int32) h3) else Wp (d + 1) m_Mo_beginType 76 [some (.ref x0), some (.int x1), some (.int (0 : Int32)), some (.int (0 : Int32)), none] [] h3 (QI K))))) else Wp (d + 1) m_Mo_beginType 76 [some (.ref x0), some (.int x1), some (.int (0 : Int32)), some (.int (0 : Int32)), none] [] h0 (QI K)) else Wp (d + 1) m_Mo_beginType 76 [some (.ref x0), some (.int x1), some (.int (0 : Int32)), some (.int (0 : Int32)), none] [] h0 (QI K)))))))))) : Ca (d + 1) m_Mo_beginType [.ref x0, .int x1] h0 (QI K) := by
  show Wp _ _ 0 [some (.ref x0), some (.int x1), none, none, none] [] h0 _
  refine V.iload_n d_Mo_beginType_0 rfl ?_
  refine V.bipush (x := 102) d_Mo_beginType_1 (by decide) ?_
  refine V.ic_eq (t := 24) d_Mo_beginType_3 ⟨rfl, rfl⟩ (fun hc => ?_) (fun hc => ?_)
  · replace hq := ifp hc hq
    exact hq
  · replace hq := ifn hc hq
    refine V.iload_n d_Mo_beginType_6 rfl ?_
    refine V.bipush (x := 100) d_Mo_beginType_7 (by decide) ?_
    refine V.ic_eq (t := 24) d_Mo_beginType_9 ⟨rfl, rfl⟩ (fun hc => ?_) (fun hc => ?_)
    · replace hq := ifp hc hq
      exact hq
    · replace hq := ifn hc hq
      refine V.iload_n d_Mo_beginType_12 rfl ?_
      refine V.bipush (x := 122) d_Mo_beginType_13 (by decide) ?_
      refine V.ic_eq (t := 24) d_Mo_beginType_15 ⟨rfl, rfl⟩ (fun hc => ?_) (fun hc => ?_)
      · replace hq := ifp hc hq
        exact hq
      · replace hq := ifn hc hq
        refine V.iload_n d_Mo_beginType_18 rfl ?_
        refine V.bipush (x := 114) d_Mo_beginType_19 (by decide) ?_
        refine V.ic_ne (t := 28) d_Mo_beginType_21 ⟨rfl, rfl⟩ (fun hc => ?_) (fun hc => ?_)
        · replace hq := ifp hc hq
          exact hq
        · replace hq := ifn hc hq
          refine V.iconst (x := 0) d_Mo_beginType_28 (by decide) ?_
          refine V.istore_n (l' := [_, _, _, _, _]) d_Mo_beginType_29 rfl (ltb rfl) ?_
          refine V.iload_n d_Mo_beginType_30 rfl ?_
          refine V.bipush (x := 42) d_Mo_beginType_31 (by decide) ?_
          refine V.ic_eq (t := 48) d_Mo_beginType_33 ⟨rfl, rfl⟩ (fun hc => ?_) (fun hc => ?_)
          · replace hq := ifp hc hq
            exact hq
          · replace hq := ifn hc hq
            refine V.iload_n d_Mo_beginType_36 rfl ?_
            refine V.bipush (x := 47) d_Mo_beginType_37 (by decide) ?_
            refine V.ic_eq (t := 48) d_Mo_beginType_39 ⟨rfl, rfl⟩ (fun hc => ?_) (fun hc => ?_)
            · replace hq := ifp hc hq
              exact hq
            · replace hq := ifn hc hq
              refine V.iload_n d_Mo_beginType_42 rfl ?_
              refine V.bipush (x := 63) d_Mo_beginType_43 (by decide) ?_
              refine V.ic_ne (t := 52) d_Mo_beginType_45 ⟨rfl, rfl⟩ (fun hc => ?_) (fun hc => ?_)
              · replace hq := ifp hc hq
                exact hq
              · replace hq := ifn hc hq
                refine V.iconst (x := 0) d_Mo_beginType_52 (by decide) ?_
                refine V.istore_n (l' := [_, _, _, _, _]) d_Mo_beginType_53 rfl (ltb rfl) ?_
                refine V.iload_n d_Mo_beginType_54 rfl ?_
                refine V.if_ne (t := 76) d_Mo_beginType_55 ⟨rfl, rfl⟩ (fun hc => ?_) (fun hc => ?_)
                · replace hq := ifp hc hq
                  refine V.iload_n d_Mo_beginType_58 rfl ?_
                  refine V.if_ne (t := 76) d_Mo_beginType_59 ⟨rfl, rfl⟩ (fun hc => ?_) (fun hc => ?_)
                  · replace hq := ifp hc hq
                    refine V.aload_n d_Mo_beginType_62 rfl ?_
                    refine V.iload_n d_Mo_beginType_63 rfl ?_
                    obtain ⟨g1, hq⟩ := hq
                    refine V.callI d_Mo_beginType_64 (cV_call (t := [_]) (rs := []) rfl (Or.inl rfl) rfl (lk1 g1) ⟨leb rfl, leb rfl⟩) hq (fun v2 h3 hq => ?_)
                    refine V.if_ne (t := 76) d_Mo_beginType_67 ⟨rfl, rfl⟩ (fun hc => ?_) (fun hc => ?_)
                    · replace hq := ifp hc hq
                      refine V.iload_n d_Mo_beginType_70 rfl ?_
                      refine V.bipush (x := 123) d_Mo_beginType_71 (by decide) ?_
                      refine V.ic_ne (t := 96) d_Mo_beginType_73 ⟨rfl, rfl⟩ (fun hc => ?_) (fun hc => ?_)
                      · replace hq := ifp hc hq
                        exact hq
                      · replace hq := ifn hc hq
                        refine V.iconst (x := 0) d_Mo_beginType_96 (by decide) ?_
                        refine V.zret (y := (0 : Int32)) d_Mo_beginType_97 rfl (by decide) ?_
                        exact V.rI hq
                    · replace hq := ifn hc hq
                      exact hq
                  · replace hq := ifn hc hq
                    exact hq
                · replace hq := ifn hc hq
                  exact hq
theorem w_Mo_beginType_24 {d : Nat} {K : Int32 → Hp → Prop} {x0 : Nat} {x1 : Int32} {y2 : Option Value} {y3 : Option Value} {y4 : Option Value} {h0 : Hp} (hq :
  (if x1 = (42 : Int32) then Wp (d + 1) m_Mo_beginType 48 [some (.ref x0), some (.int x1), some (.int (1 : Int32)), y3, y4] [] h0 (QI K) else (if x1 = (47 : Int32) then Wp (d + 1) m_Mo_beginType 48 [some (.ref x0), some (.int x1), some (.int (1 : Int32)), y3, y4] [] h0 (QI K) else (if x1 = (63 : Int32) then Wp (d + 1) m_Mo_beginType 48 [some (.ref x0), some (.int x1), some (.int (1 : Int32)), y3, y4] [] h0 (QI K) else (if (1 : Int32) = 0 then (if (0 : Int32) = 0 then ((hS h0 x0).1 = 8 ∧ Ca d m_Mo_sized [.ref x0, .int x1] h0 (QI (fun v6 h7 => (if v6 = 0 then (if x1 = (123 : Int32) then Wp (d + 1) m_Mo_beginType 76 [some (.ref x0), some (.int x1), some (.int (1 : Int32)), some (.int (0 : Int32)), y4] [] h7 (QI K) else K (0 : Int32) h7) else Wp (d + 1) m_Mo_beginType 76 [some (.ref x0), some (.int x1), some (.int (1 : Int32)), some (.int (0 : Int32)), y4] [] h7 (QI K))))) else Wp (d + 1) m_Mo_beginType 76 [some (.ref x0), some (.int x1), some (.int (1 : Int32)), some (.int (0 : Int32)), y4] [] h0 (QI K)) else Wp (d + 1) m_Mo_beginType 76 [some (.ref x0), some (.int x1), some (.int (1 : Int32)), some (.int (0 : Int32)), y4] [] h0 (QI K)))))) : Wp (d + 1) m_Mo_beginType 24 [some (.ref x0), some (.int x1), y2, y3, y4] [] h0 (QI K) := by
  refine V.iconst (x := 1) d_Mo_beginType_24 (by decide) ?_
  refine V.goto (t := 29) d_Mo_beginType_25 ⟨rfl, rfl⟩ ?_
  refine V.istore_n (l' := [_, _, _, _, _]) d_Mo_beginType_29 rfl (ltb rfl) ?_
  refine V.iload_n d_Mo_beginType_30 rfl ?_
  refine V.bipush (x := 42) d_Mo_beginType_31 (by decide) ?_
  refine V.ic_eq (t := 48) d_Mo_beginType_33 ⟨rfl, rfl⟩ (fun hc => ?_) (fun hc => ?_)
  · replace hq := ifp hc hq
    exact hq
  · replace hq := ifn hc hq
    refine V.iload_n d_Mo_beginType_36 rfl ?_
    refine V.bipush (x := 47) d_Mo_beginType_37 (by decide) ?_
    refine V.ic_eq (t := 48) d_Mo_beginType_39 ⟨rfl, rfl⟩ (fun hc => ?_) (fun hc => ?_)
    · replace hq := ifp hc hq
      exact hq
    · replace hq := ifn hc hq
      refine V.iload_n d_Mo_beginType_42 rfl ?_
      refine V.bipush (x := 63) d_Mo_beginType_43 (by decide) ?_
      refine V.ic_ne (t := 52) d_Mo_beginType_45 ⟨rfl, rfl⟩ (fun hc => ?_) (fun hc => ?_)
      · replace hq := ifp hc hq
        exact hq
      · replace hq := ifn hc hq
        refine V.iconst (x := 0) d_Mo_beginType_52 (by decide) ?_
        refine V.istore_n (l' := [_, _, _, _, _]) d_Mo_beginType_53 rfl (ltb rfl) ?_
        refine V.iload_n d_Mo_beginType_54 rfl ?_
        refine V.if_ne (t := 76) d_Mo_beginType_55 ⟨rfl, rfl⟩ (fun hc => ?_) (fun hc => ?_)
        · replace hq := ifp hc hq
          refine V.iload_n d_Mo_beginType_58 rfl ?_
          refine V.if_ne (t := 76) d_Mo_beginType_59 ⟨rfl, rfl⟩ (fun hc => ?_) (fun hc => ?_)
          · replace hq := ifp hc hq
            refine V.aload_n d_Mo_beginType_62 rfl ?_
            refine V.iload_n d_Mo_beginType_63 rfl ?_
            obtain ⟨g5, hq⟩ := hq
            refine V.callI d_Mo_beginType_64 (cV_call (t := [_]) (rs := []) rfl (Or.inl rfl) rfl (lk1 g5) ⟨leb rfl, leb rfl⟩) hq (fun v6 h7 hq => ?_)
            refine V.if_ne (t := 76) d_Mo_beginType_67 ⟨rfl, rfl⟩ (fun hc => ?_) (fun hc => ?_)
            · replace hq := ifp hc hq
              refine V.iload_n d_Mo_beginType_70 rfl ?_
              refine V.bipush (x := 123) d_Mo_beginType_71 (by decide) ?_
              refine V.ic_ne (t := 96) d_Mo_beginType_73 ⟨rfl, rfl⟩ (fun hc => ?_) (fun hc => ?_)
              · replace hq := ifp hc hq
                exact hq
              · replace hq := ifn hc hq
                refine V.iconst (x := 0) d_Mo_beginType_96 (by decide) ?_
                refine V.zret (y := (0 : Int32)) d_Mo_beginType_97 rfl (by decide) ?_
                exact V.rI hq
            · replace hq := ifn hc hq
              exact hq
          · replace hq := ifn hc hq
            exact hq
        · replace hq := ifn hc hq
          exact hq
theorem w_Mo_beginType_48 {d : Nat} {K : Int32 → Hp → Prop} {x0 : Nat} {x1 : Int32} {x2 : Int32} {y3 : Option Value} {y4 : Option Value} {h0 : Hp} (hq :
  (if x2 = 0 then (if (1 : Int32) = 0 then ((hS h0 x0).1 = 8 ∧ Ca d m_Mo_sized [.ref x0, .int x1] h0 (QI (fun v10 h11 => (if v10 = 0 then (if x1 = (123 : Int32) then Wp (d + 1) m_Mo_beginType 76 [some (.ref x0), some (.int x1), some (.int x2), some (.int (1 : Int32)), y4] [] h11 (QI K) else K (0 : Int32) h11) else Wp (d + 1) m_Mo_beginType 76 [some (.ref x0), some (.int x1), some (.int x2), some (.int (1 : Int32)), y4] [] h11 (QI K))))) else Wp (d + 1) m_Mo_beginType 76 [some (.ref x0), some (.int x1), some (.int x2), some (.int (1 : Int32)), y4] [] h0 (QI K)) else Wp (d + 1) m_Mo_beginType 76 [some (.ref x0), some (.int x1), some (.int x2), some (.int (1 : Int32)), y4] [] h0 (QI K))) : Wp (d + 1) m_Mo_beginType 48 [some (.ref x0), some (.int x1), some (.int x2), y3, y4] [] h0 (QI K) := by
  refine V.iconst (x := 1) d_Mo_beginType_48 (by decide) ?_
  refine V.goto (t := 53) d_Mo_beginType_49 ⟨rfl, rfl⟩ ?_
  refine V.istore_n (l' := [_, _, _, _, _]) d_Mo_beginType_53 rfl (ltb rfl) ?_
  refine V.iload_n d_Mo_beginType_54 rfl ?_
  refine V.if_ne (t := 76) d_Mo_beginType_55 ⟨rfl, rfl⟩ (fun hc => ?_) (fun hc => ?_)
  · replace hq := ifp hc hq
    refine V.iload_n d_Mo_beginType_58 rfl ?_
    refine V.if_ne (t := 76) d_Mo_beginType_59 ⟨rfl, rfl⟩ (fun hc => ?_) (fun hc => ?_)
    · replace hq := ifp hc hq
      refine V.aload_n d_Mo_beginType_62 rfl ?_
      refine V.iload_n d_Mo_beginType_63 rfl ?_
      obtain ⟨g9, hq⟩ := hq
      refine V.callI d_Mo_beginType_64 (cV_call (t := [_]) (rs := []) rfl (Or.inl rfl) rfl (lk1 g9) ⟨leb rfl, leb rfl⟩) hq (fun v10 h11 hq => ?_)
      refine V.if_ne (t := 76) d_Mo_beginType_67 ⟨rfl, rfl⟩ (fun hc => ?_) (fun hc => ?_)
      · replace hq := ifp hc hq
        refine V.iload_n d_Mo_beginType_70 rfl ?_
        refine V.bipush (x := 123) d_Mo_beginType_71 (by decide) ?_
        refine V.ic_ne (t := 96) d_Mo_beginType_73 ⟨rfl, rfl⟩ (fun hc => ?_) (fun hc => ?_)
        · replace hq := ifp hc hq
          exact hq
        · replace hq := ifn hc hq
          refine V.iconst (x := 0) d_Mo_beginType_96 (by decide) ?_
          refine V.zret (y := (0 : Int32)) d_Mo_beginType_97 rfl (by decide) ?_
          exact V.rI hq
      · replace hq := ifn hc hq
        exact hq
    · replace hq := ifn hc hq
      exact hq
  · replace hq := ifn hc hq
    exact hq
theorem w_Mo_beginType_76 {d : Nat} {K : Int32 → Hp → Prop} {x0 : Nat} {x1 : Int32} {x2 : Int32} {x3 : Int32} {y4 : Option Value} {h0 : Hp} (hq :
  ((hS h0 x0).1 = 8 ∧ (if (hI h0 x0 28) = (5 : Int32) then K (0 : Int32) h0 else (if x3 = 0 then Wp (d + 1) m_Mo_beginType 98 [some (.ref x0), some (.int x1), some (.int x2), some (.int x3), y4] [] h0 (QI K) else (if (hI h0 x0 28) = (4 : Int32) then K (0 : Int32) h0 else Wp (d + 1) m_Mo_beginType 98 [some (.ref x0), some (.int x1), some (.int x2), some (.int x3), y4] [] h0 (QI K)))))) : Wp (d + 1) m_Mo_beginType 76 [some (.ref x0), some (.int x1), some (.int x2), some (.int x3), y4] [] h0 (QI K) := by
  refine V.aload_n d_Mo_beginType_76 rfl ?_
  obtain ⟨g13, hq⟩ := hq
  refine V.get0 d_Mo_beginType_77 rfl (List.mem_singleton.mpr g13) ?_
  refine V.iconst (x := 5) d_Mo_beginType_80 (by decide) ?_
  refine V.ic_eq (t := 96) d_Mo_beginType_81 ⟨rfl, rfl⟩ (fun hc => ?_) (fun hc => ?_)
  · replace hq := ifp hc hq
    refine V.iconst (x := 0) d_Mo_beginType_96 (by decide) ?_
    refine V.zret (y := (0 : Int32)) d_Mo_beginType_97 rfl (by decide) ?_
    exact V.rI hq
  · replace hq := ifn hc hq
    refine V.iload_n d_Mo_beginType_84 rfl ?_
    refine V.if_eq (t := 98) d_Mo_beginType_85 ⟨rfl, rfl⟩ (fun hc => ?_) (fun hc => ?_)
    · replace hq := ifp hc hq
      exact hq
    · replace hq := ifn hc hq
      refine V.aload_n d_Mo_beginType_88 rfl ?_
      refine V.get0 d_Mo_beginType_89 rfl (List.mem_singleton.mpr g13) ?_
      refine V.iconst (x := 4) d_Mo_beginType_92 (by decide) ?_
      refine V.ic_ne (t := 98) d_Mo_beginType_93 ⟨rfl, rfl⟩ (fun hc => ?_) (fun hc => ?_)
      · replace hq := ifp hc hq
        refine V.iconst (x := 0) d_Mo_beginType_96 (by decide) ?_
        refine V.zret (y := (0 : Int32)) d_Mo_beginType_97 rfl (by decide) ?_
        exact V.rI hq
      · replace hq := ifn hc hq
        exact hq
set_option maxRecDepth 100000 in
theorem w_Mo_beginType_98 {d : Nat} {K : Int32 → Hp → Prop} {x0 : Nat} {x1 : Int32} {x2 : Int32} {y3 : Option Value} {y4 : Option Value} {h0 : Hp} (hq :
  ((hS h0 x0).1 = 8 ∧ (∀ v15 : Int32, v15 = (hI h0 x0 23) → (∀ h16 : Hp, h16 = sI h0 x0 23 ((hI h0 x0 23) + (1 : Int32)) → ((hS h0 (hR h16 x0 12)).1 = 20 ∧ (¬ (hR h16 x0 12) = 1 ∧ (ainr v15 (hS h0 (hR h16 x0 12)).2 = true ∧ (∀ h20 : Hp, h20 = sI h16 (hR h16 x0 12) v15.toNatClampNeg x1 → ((hS h0 (hR h20 x0 14)).1 = 20 ∧ (¬ (hR h20 x0 14) = 1 ∧ (ainr v15 (hS h0 (hR h20 x0 14)).2 = true ∧ (∀ h24 : Hp, h24 = sI h20 (hR h20 x0 14) v15.toNatClampNeg (0 : Int32) → ((hS h0 (hR h24 x0 15)).1 = 20 ∧ (¬ (hR h24 x0 15) = 1 ∧ (ainr v15 (hS h0 (hR h24 x0 15)).2 = true ∧ (∀ h28 : Hp, h28 = sI h24 (hR h24 x0 15) v15.toNatClampNeg (0 : Int32) → ((hS h0 (hR h28 x0 20)).1 = 20 ∧ (¬ (hR h28 x0 20) = 1 ∧ (ainr v15 (hS h0 (hR h28 x0 20)).2 = true ∧ (∀ h32 : Hp, h32 = sI h28 (hR h28 x0 20) v15.toNatClampNeg (-1 : Int32) → ((hS h0 (hR h32 x0 21)).1 = 20 ∧ (¬ (hR h32 x0 21) = 1 ∧ (ainr v15 (hS h0 (hR h32 x0 21)).2 = true ∧ (∀ h36 : Hp, h36 = sI h32 (hR h32 x0 21) v15.toNatClampNeg (-1 : Int32) → ((hS h0 (hR h36 x0 22)).1 = 20 ∧ (¬ (hR h36 x0 22) = 1 ∧ (ainr v15 (hS h0 (hR h36 x0 22)).2 = true ∧ (∀ h40 : Hp, h40 = sI h36 (hR h36 x0 22) v15.toNatClampNeg (-1 : Int32) → ((hS h0 (hR h40 x0 17)).1 = 20 ∧ (¬ (hR h40 x0 17) = 1 ∧ (ainr v15 (hS h0 (hR h40 x0 17)).2 = true ∧ (∀ h44 : Hp, h44 = sI h40 (hR h40 x0 17) v15.toNatClampNeg (-1 : Int32) → ((hS h0 (hR h44 x0 18)).1 = 20 ∧ (¬ (hR h44 x0 18) = 1 ∧ (ainr v15 (hS h0 (hR h44 x0 18)).2 = true ∧ (∀ h48 : Hp, h48 = sI h44 (hR h44 x0 18) v15.toNatClampNeg (-1 : Int32) → (if 0 < (hI h48 x0 28) then ((hS h0 (hR h48 x0 24)).1 = 20 ∧ (ainr ((hI h48 x0 28) - (1 : Int32)) (hS h0 (hR h48 x0 24)).2 = true ∧ ((hS h0 (hR h48 x0 19)).1 = 20 ∧ (¬ (hR h48 x0 19) = 1 ∧ (ainr v15 (hS h0 (hR h48 x0 19)).2 = true ∧ (∀ h54 : Hp, h54 = sI h48 (hR h48 x0 19) v15.toNatClampNeg (hI h48 (hR h48 x0 24) ((hI h48 x0 28) - (1 : Int32)).toNatClampNeg) → (if 0 < (hI h54 x0 28) then ((hS h0 (hR h54 x0 19)).1 = 20 ∧ (ainr v15 (hS h0 (hR h54 x0 19)).2 = true ∧ Ca d m_Mo_hang [.ref x0, .int v15, .int (hI h54 (hR h54 x0 19) v15.toNatClampNeg)] h54 (QV (fun h57 => Wp (d + 1) m_Mo_beginType 227 [some (.ref x0), some (.int x1), some (.int x2), (yk y3), some (.int v15)] [] h57 (QI K))))) else Wp (d + 1) m_Mo_beginType 227 [some (.ref x0), some (.int x1), some (.int x2), (yk y3), some (.int v15)] [] h54 (QI K)))))))) else ((hS h0 (hR h48 x0 19)).1 = 20 ∧ (¬ (hR h48 x0 19) = 1 ∧ (ainr v15 (hS h0 (hR h48 x0 19)).2 = true ∧ (∀ h62 : Hp, h62 = sI h48 (hR h48 x0 19) v15.toNatClampNeg (-1 : Int32) → (if 0 < (hI h62 x0 28) then ((hS h0 (hR h62 x0 19)).1 = 20 ∧ (ainr v15 (hS h0 (hR h62 x0 19)).2 = true ∧ Ca d m_Mo_hang [.ref x0, .int v15, .int (hI h62 (hR h62 x0 19) v15.toNatClampNeg)] h62 (QV (fun h65 => Wp (d + 1) m_Mo_beginType 227 [some (.ref x0), some (.int x1), some (.int x2), (yk y3), some (.int v15)] [] h65 (QI K))))) else Wp (d + 1) m_Mo_beginType 227 [some (.ref x0), some (.int x1), some (.int x2), (yk y3), some (.int v15)] [] h62 (QI K))))))))))))))))))))))))))))))))))))))))))) : Wp (d + 1) m_Mo_beginType 98 [some (.ref x0), some (.int x1), some (.int x2), y3, y4] [] h0 (QI K) := by
  refine V.aload_n d_Mo_beginType_98 rfl ?_
  obtain ⟨g14, hq⟩ := hq
  refine V.get0 d_Mo_beginType_99 rfl (List.mem_singleton.mpr g14) ?_
  replace hq := hq _ rfl
  refine V.istore (l' := [_, _, _, _, _]) d_Mo_beginType_102 ((st1_alt (ltb rfl)).trans rfl) (ltb rfl) ?_
  refine V.aload_n d_Mo_beginType_104 rfl ?_
  refine V.dupR d_Mo_beginType_105 ?_
  refine V.get0 d_Mo_beginType_106 rfl (List.mem_singleton.mpr g14) ?_
  refine V.iconst (x := 1) d_Mo_beginType_109 (by decide) ?_
  refine V.iadd d_Mo_beginType_110 ?_
  refine V.put0 d_Mo_beginType_111 rfl (Or.inl rfl) (List.mem_singleton.mpr g14) ?_
  replace hq := hq _ rfl
  refine V.aload_n d_Mo_beginType_114 rfl ?_
  refine V.get2 d_Mo_beginType_115 rfl (List.mem_singleton.mpr g14) ?_
  refine V.iload d_Mo_beginType_118 rfl ?_
  refine V.iload_n d_Mo_beginType_120 rfl ?_
  obtain ⟨g17, hq⟩ := hq
  obtain ⟨g18, hq⟩ := hq
  obtain ⟨g19, hq⟩ := hq
  refine V.iastore d_Mo_beginType_121 g17 g18 g19 ?_
  replace hq := hq _ rfl
  refine V.aload_n d_Mo_beginType_122 rfl ?_
  refine V.get2 d_Mo_beginType_123 rfl (List.mem_singleton.mpr g14) ?_
  refine V.iload d_Mo_beginType_126 rfl ?_
  refine V.iconst (x := 0) d_Mo_beginType_128 (by decide) ?_
  obtain ⟨g21, hq⟩ := hq
  obtain ⟨g22, hq⟩ := hq
  obtain ⟨g23, hq⟩ := hq
  refine V.iastore d_Mo_beginType_129 g21 g22 g23 ?_
  replace hq := hq _ rfl
  refine V.aload_n d_Mo_beginType_130 rfl ?_
  refine V.get2 d_Mo_beginType_131 rfl (List.mem_singleton.mpr g14) ?_
  refine V.iload d_Mo_beginType_134 rfl ?_
  refine V.iconst (x := 0) d_Mo_beginType_136 (by decide) ?_
  obtain ⟨g25, hq⟩ := hq
  obtain ⟨g26, hq⟩ := hq
  obtain ⟨g27, hq⟩ := hq
  refine V.iastore d_Mo_beginType_137 g25 g26 g27 ?_
  replace hq := hq _ rfl
  refine V.aload_n d_Mo_beginType_138 rfl ?_
  refine V.get2 d_Mo_beginType_139 rfl (List.mem_singleton.mpr g14) ?_
  refine V.iload d_Mo_beginType_142 rfl ?_
  refine V.iconst (x := -1) d_Mo_beginType_144 (by decide) ?_
  obtain ⟨g29, hq⟩ := hq
  obtain ⟨g30, hq⟩ := hq
  obtain ⟨g31, hq⟩ := hq
  refine V.iastore d_Mo_beginType_145 g29 g30 g31 ?_
  replace hq := hq _ rfl
  refine V.aload_n d_Mo_beginType_146 rfl ?_
  refine V.get2 d_Mo_beginType_147 rfl (List.mem_singleton.mpr g14) ?_
  refine V.iload d_Mo_beginType_150 rfl ?_
  refine V.iconst (x := -1) d_Mo_beginType_152 (by decide) ?_
  obtain ⟨g33, hq⟩ := hq
  obtain ⟨g34, hq⟩ := hq
  obtain ⟨g35, hq⟩ := hq
  refine V.iastore d_Mo_beginType_153 g33 g34 g35 ?_
  replace hq := hq _ rfl
  refine V.aload_n d_Mo_beginType_154 rfl ?_
  refine V.get2 d_Mo_beginType_155 rfl (List.mem_singleton.mpr g14) ?_
  refine V.iload d_Mo_beginType_158 rfl ?_
  refine V.iconst (x := -1) d_Mo_beginType_160 (by decide) ?_
  obtain ⟨g37, hq⟩ := hq
  obtain ⟨g38, hq⟩ := hq
  obtain ⟨g39, hq⟩ := hq
  refine V.iastore d_Mo_beginType_161 g37 g38 g39 ?_
  replace hq := hq _ rfl
  refine V.aload_n d_Mo_beginType_162 rfl ?_
  refine V.get2 d_Mo_beginType_163 rfl (List.mem_singleton.mpr g14) ?_
  refine V.iload d_Mo_beginType_166 rfl ?_
  refine V.iconst (x := -1) d_Mo_beginType_168 (by decide) ?_
  obtain ⟨g41, hq⟩ := hq
  obtain ⟨g42, hq⟩ := hq
  obtain ⟨g43, hq⟩ := hq
  refine V.iastore d_Mo_beginType_169 g41 g42 g43 ?_
  replace hq := hq _ rfl
  refine V.aload_n d_Mo_beginType_170 rfl ?_
  refine V.get2 d_Mo_beginType_171 rfl (List.mem_singleton.mpr g14) ?_
  refine V.iload d_Mo_beginType_174 rfl ?_
  refine V.iconst (x := -1) d_Mo_beginType_176 (by decide) ?_
  obtain ⟨g45, hq⟩ := hq
  obtain ⟨g46, hq⟩ := hq
  obtain ⟨g47, hq⟩ := hq
  refine V.iastore d_Mo_beginType_177 g45 g46 g47 ?_
  replace hq := hq _ rfl
  refine V.aload_n d_Mo_beginType_178 rfl ?_
  refine V.get2 d_Mo_beginType_179 rfl (List.mem_singleton.mpr g14) ?_
  refine V.iload d_Mo_beginType_182 rfl ?_
  refine V.aload_n d_Mo_beginType_184 rfl ?_
  refine V.get0 d_Mo_beginType_185 rfl (List.mem_singleton.mpr g14) ?_
  refine V.if_le (t := 205) d_Mo_beginType_188 ⟨rfl, rfl⟩ (fun hc => ?_) (fun hc => ?_)
  · replace hq := ifp hc hq
    refine V.aload_n d_Mo_beginType_191 rfl ?_
    refine V.get2 d_Mo_beginType_192 rfl (List.mem_singleton.mpr g14) ?_
    refine V.aload_n d_Mo_beginType_195 rfl ?_
    refine V.get0 d_Mo_beginType_196 rfl (List.mem_singleton.mpr g14) ?_
    refine V.iconst (x := 1) d_Mo_beginType_199 (by decide) ?_
    refine V.isub d_Mo_beginType_200 ?_
    obtain ⟨g49, hq⟩ := hq
    obtain ⟨g50, hq⟩ := hq
    refine V.iaload d_Mo_beginType_201 g49 g50 ?_
    refine V.goto (t := 206) d_Mo_beginType_202 ⟨rfl, rfl⟩ ?_
    obtain ⟨g51, hq⟩ := hq
    obtain ⟨g52, hq⟩ := hq
    obtain ⟨g53, hq⟩ := hq
    refine V.iastore d_Mo_beginType_206 g51 g52 g53 ?_
    replace hq := hq _ rfl
    refine V.aload_n d_Mo_beginType_207 rfl ?_
    refine V.get0 d_Mo_beginType_208 rfl (List.mem_singleton.mpr g14) ?_
    refine V.if_le (t := 227) d_Mo_beginType_211 ⟨rfl, rfl⟩ (fun hc => ?_) (fun hc => ?_)
    · replace hq := ifp hc hq
      refine V.aload_n d_Mo_beginType_214 rfl ?_
      refine V.iload d_Mo_beginType_215 rfl ?_
      refine V.aload_n d_Mo_beginType_217 rfl ?_
      refine V.get2 d_Mo_beginType_218 rfl (List.mem_singleton.mpr g14) ?_
      refine V.iload d_Mo_beginType_221 rfl ?_
      obtain ⟨g55, hq⟩ := hq
      obtain ⟨g56, hq⟩ := hq
      refine V.iaload d_Mo_beginType_223 g55 g56 ?_
      refine V.callV d_Mo_beginType_224 (cV_call (t := [_, _]) (rs := []) rfl (Or.inl rfl) rfl (lk1 g14) ⟨leb rfl, leb rfl⟩) hq (fun h57 hq => ?_)
      exact hq
    · replace hq := ifn hc hq
      exact hq
  · replace hq := ifn hc hq
    refine V.iconst (x := -1) d_Mo_beginType_205 (by decide) ?_
    obtain ⟨g59, hq⟩ := hq
    obtain ⟨g60, hq⟩ := hq
    obtain ⟨g61, hq⟩ := hq
    refine V.iastore d_Mo_beginType_206 g59 g60 g61 ?_
    replace hq := hq _ rfl
    refine V.aload_n d_Mo_beginType_207 rfl ?_
    refine V.get0 d_Mo_beginType_208 rfl (List.mem_singleton.mpr g14) ?_
    refine V.if_le (t := 227) d_Mo_beginType_211 ⟨rfl, rfl⟩ (fun hc => ?_) (fun hc => ?_)
    · replace hq := ifp hc hq
      refine V.aload_n d_Mo_beginType_214 rfl ?_
      refine V.iload d_Mo_beginType_215 rfl ?_
      refine V.aload_n d_Mo_beginType_217 rfl ?_
      refine V.get2 d_Mo_beginType_218 rfl (List.mem_singleton.mpr g14) ?_
      refine V.iload d_Mo_beginType_221 rfl ?_
      obtain ⟨g63, hq⟩ := hq
      obtain ⟨g64, hq⟩ := hq
      refine V.iaload d_Mo_beginType_223 g63 g64 ?_
      refine V.callV d_Mo_beginType_224 (cV_call (t := [_, _]) (rs := []) rfl (Or.inl rfl) rfl (lk1 g14) ⟨leb rfl, leb rfl⟩) hq (fun h65 hq => ?_)
      exact hq
    · replace hq := ifn hc hq
      exact hq
theorem w_Mo_beginType_227 {d : Nat} {K : Int32 → Hp → Prop} {x0 : Nat} {y1 : Option Value} {x2 : Int32} {y3 : Option Value} {x4 : Int32} {h0 : Hp} (hq :
  ((hS h0 x0).1 = 8 ∧ ((hS h0 (hR h0 x0 24)).1 = 20 ∧ (¬ (hR h0 x0 24) = 1 ∧ (ainr (hI h0 x0 28) (hS h0 (hR h0 x0 24)).2 = true ∧ (∀ h71 : Hp, h71 = sI h0 (hR h0 x0 24) (hI h0 x0 28).toNatClampNeg x4 → ((hS h0 (hR h71 x0 25)).1 = 20 ∧ (¬ (hR h71 x0 25) = 1 ∧ (ainr (hI h71 x0 28) (hS h0 (hR h71 x0 25)).2 = true ∧ (∀ h75 : Hp, h75 = sI h71 (hR h71 x0 25) (hI h71 x0 28).toNatClampNeg (0 : Int32) → (∀ h76 : Hp, h76 = sI h75 x0 28 ((hI h75 x0 28) + (1 : Int32)) → (if x2 = 0 then K (1 : Int32) h76 else Ca d m_Mo_finish [.ref x0] h76 (QV (fun h77 => K (1 : Int32) h77)))))))))))))) : Wp (d + 1) m_Mo_beginType 227 [some (.ref x0), y1, some (.int x2), y3, some (.int x4)] [] h0 (QI K) := by
  refine V.aload_n d_Mo_beginType_227 rfl ?_
  obtain ⟨g67, hq⟩ := hq
  refine V.get2 d_Mo_beginType_228 rfl (List.mem_singleton.mpr g67) ?_
  refine V.aload_n d_Mo_beginType_231 rfl ?_
  refine V.get0 d_Mo_beginType_232 rfl (List.mem_singleton.mpr g67) ?_
  refine V.iload d_Mo_beginType_235 rfl ?_
  obtain ⟨g68, hq⟩ := hq
  obtain ⟨g69, hq⟩ := hq
  obtain ⟨g70, hq⟩ := hq
  refine V.iastore d_Mo_beginType_237 g68 g69 g70 ?_
  replace hq := hq _ rfl
  refine V.aload_n d_Mo_beginType_238 rfl ?_
  refine V.get2 d_Mo_beginType_239 rfl (List.mem_singleton.mpr g67) ?_
  refine V.aload_n d_Mo_beginType_242 rfl ?_
  refine V.get0 d_Mo_beginType_243 rfl (List.mem_singleton.mpr g67) ?_
  refine V.iconst (x := 0) d_Mo_beginType_246 (by decide) ?_
  obtain ⟨g72, hq⟩ := hq
  obtain ⟨g73, hq⟩ := hq
  obtain ⟨g74, hq⟩ := hq
  refine V.iastore d_Mo_beginType_247 g72 g73 g74 ?_
  replace hq := hq _ rfl
  refine V.aload_n d_Mo_beginType_248 rfl ?_
  refine V.dupR d_Mo_beginType_249 ?_
  refine V.get0 d_Mo_beginType_250 rfl (List.mem_singleton.mpr g67) ?_
  refine V.iconst (x := 1) d_Mo_beginType_253 (by decide) ?_
  refine V.iadd d_Mo_beginType_254 ?_
  refine V.put0 d_Mo_beginType_255 rfl (Or.inl rfl) (List.mem_singleton.mpr g67) ?_
  replace hq := hq _ rfl
  refine V.iload_n d_Mo_beginType_258 rfl ?_
  refine V.if_eq (t := 266) d_Mo_beginType_259 ⟨rfl, rfl⟩ (fun hc => ?_) (fun hc => ?_)
  · replace hq := ifp hc hq
    refine V.iconst (x := 1) d_Mo_beginType_266 (by decide) ?_
    refine V.zret (y := (1 : Int32)) d_Mo_beginType_267 rfl (by decide) ?_
    exact V.rI hq
  · replace hq := ifn hc hq
    refine V.aload_n d_Mo_beginType_262 rfl ?_
    refine V.callV d_Mo_beginType_263 (cV_call (t := []) (rs := []) rfl (Or.inl rfl) rfl (lk1 g67) ⟨leb rfl, leb rfl⟩) hq (fun h77 hq => ?_)
    refine V.iconst (x := 1) d_Mo_beginType_266 (by decide) ?_
    refine V.zret (y := (1 : Int32)) d_Mo_beginType_267 rfl (by decide) ?_
    exact V.rI hq
theorem w_Mo_hang {d : Nat} {K : Hp → Prop} {x0 : Nat} {x1 : Int32} {x2 : Int32} {h0 : Hp} (hq :
  ((hS h0 x0).1 = 8 ∧ ((hS h0 (hR h0 x0 12)).1 = 20 ∧ (ainr x2 (hS h0 (hR h0 x0 12)).2 = true ∧ (if (hI h0 (hR h0 x0 12) x2.toNatClampNeg) = (123 : Int32) then ((hS h0 (hR h0 x0 27)).1 = 20 ∧ (ainr ((hI h0 x0 28) - (1 : Int32)) (hS h0 (hR h0 x0 27)).2 = true ∧ ((hS h0 (hR h0 x0 17)).1 = 20 ∧ (¬ (hR h0 x0 17) = 1 ∧ (ainr x1 (hS h0 (hR h0 x0 17)).2 = true ∧ (∀ h9 : Hp, h9 = sI h0 (hR h0 x0 17) x1.toNatClampNeg (hI h0 (hR h0 x0 27) ((hI h0 x0 28) - (1 : Int32)).toNatClampNeg) → Wp d m_Mo_hang 28 [some (.ref x0), some (.int x1), some (.int x2), none] [] h9 (QV K))))))) else Wp d m_Mo_hang 28 [some (.ref x0), some (.int x1), some (.int x2), none] [] h0 (QV K)))))) : Ca d m_Mo_hang [.ref x0, .int x1, .int x2] h0 (QV K) := by
  show Wp _ _ 0 [some (.ref x0), some (.int x1), some (.int x2), none] [] h0 _
  refine V.aload_n d_Mo_hang_0 rfl ?_
  obtain ⟨g1, hq⟩ := hq
  refine V.get2 d_Mo_hang_1 rfl (List.mem_singleton.mpr g1) ?_
  refine V.iload_n d_Mo_hang_4 rfl ?_
  obtain ⟨g2, hq⟩ := hq
  obtain ⟨g3, hq⟩ := hq
  refine V.iaload d_Mo_hang_5 g2 g3 ?_
  refine V.bipush (x := 123) d_Mo_hang_6 (by decide) ?_
  refine V.ic_ne (t := 28) d_Mo_hang_8 ⟨rfl, rfl⟩ (fun hc => ?_) (fun hc => ?_)
  · replace hq := ifp hc hq
    refine V.aload_n d_Mo_hang_11 rfl ?_
    refine V.get2 d_Mo_hang_12 rfl (List.mem_singleton.mpr g1) ?_
    refine V.iload_n d_Mo_hang_15 rfl ?_
    refine V.aload_n d_Mo_hang_16 rfl ?_
    refine V.get2 d_Mo_hang_17 rfl (List.mem_singleton.mpr g1) ?_
    refine V.aload_n d_Mo_hang_20 rfl ?_
    refine V.get0 d_Mo_hang_21 rfl (List.mem_singleton.mpr g1) ?_
    refine V.iconst (x := 1) d_Mo_hang_24 (by decide) ?_
    refine V.isub d_Mo_hang_25 ?_
    obtain ⟨g4, hq⟩ := hq
    obtain ⟨g5, hq⟩ := hq
    refine V.iaload d_Mo_hang_26 g4 g5 ?_
    obtain ⟨g6, hq⟩ := hq
    obtain ⟨g7, hq⟩ := hq
    obtain ⟨g8, hq⟩ := hq
    refine V.iastore d_Mo_hang_27 g6 g7 g8 ?_
    replace hq := hq _ rfl
    exact hq
  · replace hq := ifn hc hq
    exact hq
theorem w_Mo_hang_28 {d : Nat} {K : Hp → Prop} {x0 : Nat} {x1 : Int32} {x2 : Int32} {y3 : Option Value} {h0 : Hp} (hq :
  ((hS h0 x0).1 = 8 ∧ ((hS h0 (hR h0 x0 12)).1 = 20 ∧ (ainr x2 (hS h0 (hR h0 x0 12)).2 = true ∧ (if (hI h0 (hR h0 x0 12) x2.toNatClampNeg) = (63 : Int32) then ((hS h0 (hR h0 x0 27)).1 = 20 ∧ (ainr ((hI h0 x0 28) - (1 : Int32)) (hS h0 (hR h0 x0 27)).2 = true ∧ ((hS h0 (hR h0 x0 18)).1 = 20 ∧ (¬ (hR h0 x0 18) = 1 ∧ (ainr x1 (hS h0 (hR h0 x0 18)).2 = true ∧ (∀ h18 : Hp, h18 = sI h0 (hR h0 x0 18) x1.toNatClampNeg (hI h0 (hR h0 x0 27) ((hI h0 x0 28) - (1 : Int32)).toNatClampNeg) → Wp d m_Mo_hang 56 [some (.ref x0), some (.int x1), some (.int x2), y3] [] h18 (QV K))))))) else Wp d m_Mo_hang 56 [some (.ref x0), some (.int x1), some (.int x2), y3] [] h0 (QV K)))))) : Wp d m_Mo_hang 28 [some (.ref x0), some (.int x1), some (.int x2), y3] [] h0 (QV K) := by
  refine V.aload_n d_Mo_hang_28 rfl ?_
  obtain ⟨g10, hq⟩ := hq
  refine V.get2 d_Mo_hang_29 rfl (List.mem_singleton.mpr g10) ?_
  refine V.iload_n d_Mo_hang_32 rfl ?_
  obtain ⟨g11, hq⟩ := hq
  obtain ⟨g12, hq⟩ := hq
  refine V.iaload d_Mo_hang_33 g11 g12 ?_
  refine V.bipush (x := 63) d_Mo_hang_34 (by decide) ?_
  refine V.ic_ne (t := 56) d_Mo_hang_36 ⟨rfl, rfl⟩ (fun hc => ?_) (fun hc => ?_)
  · replace hq := ifp hc hq
    refine V.aload_n d_Mo_hang_39 rfl ?_
    refine V.get2 d_Mo_hang_40 rfl (List.mem_singleton.mpr g10) ?_
    refine V.iload_n d_Mo_hang_43 rfl ?_
    refine V.aload_n d_Mo_hang_44 rfl ?_
    refine V.get2 d_Mo_hang_45 rfl (List.mem_singleton.mpr g10) ?_
    refine V.aload_n d_Mo_hang_48 rfl ?_
    refine V.get0 d_Mo_hang_49 rfl (List.mem_singleton.mpr g10) ?_
    refine V.iconst (x := 1) d_Mo_hang_52 (by decide) ?_
    refine V.isub d_Mo_hang_53 ?_
    obtain ⟨g13, hq⟩ := hq
    obtain ⟨g14, hq⟩ := hq
    refine V.iaload d_Mo_hang_54 g13 g14 ?_
    obtain ⟨g15, hq⟩ := hq
    obtain ⟨g16, hq⟩ := hq
    obtain ⟨g17, hq⟩ := hq
    refine V.iastore d_Mo_hang_55 g15 g16 g17 ?_
    replace hq := hq _ rfl
    exact hq
  · replace hq := ifn hc hq
    exact hq
theorem w_Mo_hang_56 {d : Nat} {K : Hp → Prop} {x0 : Nat} {x1 : Int32} {x2 : Int32} {y3 : Option Value} {h0 : Hp} (hq :
  ((hS h0 x0).1 = 8 ∧ ((hS h0 (hR h0 x0 20)).1 = 20 ∧ (ainr x2 (hS h0 (hR h0 x0 20)).2 = true ∧ (if (hI h0 (hR h0 x0 20) x2.toNatClampNeg) < 0 then (¬ (hR h0 x0 20) = 1 ∧ (∀ h23 : Hp, h23 = sI h0 (hR h0 x0 20) x2.toNatClampNeg x1 → K h23)) else (∀ v24 : Int32, v24 = (hI h0 (hR h0 x0 20) x2.toNatClampNeg) → Wp d m_Mo_hang 80 [some (.ref x0), some (.int x1), some (.int x2), some (.int v24)] [] h0 (QV K))))))) : Wp d m_Mo_hang 56 [some (.ref x0), some (.int x1), some (.int x2), y3] [] h0 (QV K) := by
  refine V.aload_n d_Mo_hang_56 rfl ?_
  obtain ⟨g19, hq⟩ := hq
  refine V.get2 d_Mo_hang_57 rfl (List.mem_singleton.mpr g19) ?_
  refine V.iload_n d_Mo_hang_60 rfl ?_
  obtain ⟨g20, hq⟩ := hq
  obtain ⟨g21, hq⟩ := hq
  refine V.iaload d_Mo_hang_61 g20 g21 ?_
  refine V.if_ge (t := 73) d_Mo_hang_62 ⟨rfl, rfl⟩ (fun hc => ?_) (fun hc => ?_)
  · replace hq := ifp hc hq
    refine V.aload_n d_Mo_hang_65 rfl ?_
    refine V.get2 d_Mo_hang_66 rfl (List.mem_singleton.mpr g19) ?_
    refine V.iload_n d_Mo_hang_69 rfl ?_
    refine V.iload_n d_Mo_hang_70 rfl ?_
    obtain ⟨g22, hq⟩ := hq
    refine V.iastore d_Mo_hang_71 g20 g22 g21 ?_
    replace hq := hq _ rfl
    refine V.vret d_Mo_hang_72 rfl ?_
    exact V.rV hq
  · replace hq := ifn hc hq
    refine V.aload_n d_Mo_hang_73 rfl ?_
    refine V.get2 d_Mo_hang_74 rfl (List.mem_singleton.mpr g19) ?_
    refine V.iload_n d_Mo_hang_77 rfl ?_
    refine V.iaload d_Mo_hang_78 g20 g21 ?_
    replace hq := hq _ rfl
    refine V.istore_n (l' := [_, _, _, _]) d_Mo_hang_79 rfl (ltb rfl) ?_
    exact hq
theorem w_Mo_hang_80 {d : Nat} {K : Hp → Prop} {x0 : Nat} {x1 : Int32} {y2 : Option Value} {x3 : Int32} {h0 : Hp} (hq :
  ((hS h0 x0).1 = 8 ∧ ((hS h0 (hR h0 x0 21)).1 = 20 ∧ (ainr x3 (hS h0 (hR h0 x0 21)).2 = true ∧ (if (hI h0 (hR h0 x0 21) x3.toNatClampNeg) < 0 then (¬ (hR h0 x0 21) = 1 ∧ (∀ h29 : Hp, h29 = sI h0 (hR h0 x0 21) x3.toNatClampNeg x1 → ((hS h0 (hR h29 x0 22)).1 = 20 ∧ (¬ (hR h29 x0 22) = 1 ∧ (ainr x1 (hS h0 (hR h29 x0 22)).2 = true ∧ (∀ h33 : Hp, h33 = sI h29 (hR h29 x0 22) x1.toNatClampNeg x3 → K h33)))))) else (∀ v34 : Int32, v34 = (hI h0 (hR h0 x0 21) x3.toNatClampNeg) → Wp d m_Mo_hang 80 [some (.ref x0), some (.int x1), (yk y2), some (.int v34)] [] h0 (QV K))))))) : Wp d m_Mo_hang 80 [some (.ref x0), some (.int x1), y2, some (.int x3)] [] h0 (QV K) := by
  refine V.aload_n d_Mo_hang_80 rfl ?_
  obtain ⟨g25, hq⟩ := hq
  refine V.get2 d_Mo_hang_81 rfl (List.mem_singleton.mpr g25) ?_
  refine V.iload_n d_Mo_hang_84 rfl ?_
  obtain ⟨g26, hq⟩ := hq
  obtain ⟨g27, hq⟩ := hq
  refine V.iaload d_Mo_hang_85 g26 g27 ?_
  refine V.if_lt (t := 99) d_Mo_hang_86 ⟨rfl, rfl⟩ (fun hc => ?_) (fun hc => ?_)
  · replace hq := ifp hc hq
    refine V.aload_n d_Mo_hang_99 rfl ?_
    refine V.get2 d_Mo_hang_100 rfl (List.mem_singleton.mpr g25) ?_
    refine V.iload_n d_Mo_hang_103 rfl ?_
    refine V.iload_n d_Mo_hang_104 rfl ?_
    obtain ⟨g28, hq⟩ := hq
    refine V.iastore d_Mo_hang_105 g26 g28 g27 ?_
    replace hq := hq _ rfl
    refine V.aload_n d_Mo_hang_106 rfl ?_
    refine V.get2 d_Mo_hang_107 rfl (List.mem_singleton.mpr g25) ?_
    refine V.iload_n d_Mo_hang_110 rfl ?_
    refine V.iload_n d_Mo_hang_111 rfl ?_
    obtain ⟨g30, hq⟩ := hq
    obtain ⟨g31, hq⟩ := hq
    obtain ⟨g32, hq⟩ := hq
    refine V.iastore d_Mo_hang_112 g30 g31 g32 ?_
    replace hq := hq _ rfl
    refine V.vret d_Mo_hang_113 rfl ?_
    exact V.rV hq
  · replace hq := ifn hc hq
    refine V.aload_n d_Mo_hang_89 rfl ?_
    refine V.get2 d_Mo_hang_90 rfl (List.mem_singleton.mpr g25) ?_
    refine V.iload_n d_Mo_hang_93 rfl ?_
    refine V.iaload d_Mo_hang_94 g26 g27 ?_
    replace hq := hq _ rfl
    refine V.istore_n (l' := [_, _, _, _]) d_Mo_hang_95 ((st1_alt (ltb rfl)).trans rfl) (ltb rfl) ?_
    refine V.goto (t := 80) d_Mo_hang_96 ⟨rfl, rfl⟩ ?_
    exact hq
theorem w_Mo_isName {d : Nat} {K : Int32 → Hp → Prop} {x0 : Nat} {x1 : Int32} {h0 : Hp} (hq :
  (if x1 < (97 : Int32) then K (0 : Int32) h0 else (if (108 : Int32) < x1 then K (0 : Int32) h0 else K (1 : Int32) h0))) : Ca d m_Mo_isName [.ref x0, .int x1] h0 (QI K) := by
  show Wp _ _ 0 [some (.ref x0), some (.int x1)] [] h0 _
  refine V.iload_n d_Mo_isName_0 rfl ?_
  refine V.bipush (x := 97) d_Mo_isName_1 (by decide) ?_
  refine V.ic_lt (t := 16) d_Mo_isName_3 ⟨rfl, rfl⟩ (fun hc => ?_) (fun hc => ?_)
  · replace hq := ifp hc hq
    refine V.iconst (x := 0) d_Mo_isName_16 (by decide) ?_
    refine V.zret (y := (0 : Int32)) d_Mo_isName_17 rfl (by decide) ?_
    exact V.rI hq
  · replace hq := ifn hc hq
    refine V.iload_n d_Mo_isName_6 rfl ?_
    refine V.bipush (x := 108) d_Mo_isName_7 (by decide) ?_
    refine V.ic_gt (t := 16) d_Mo_isName_9 ⟨rfl, rfl⟩ (fun hc => ?_) (fun hc => ?_)
    · replace hq := ifp hc hq
      refine V.iconst (x := 0) d_Mo_isName_16 (by decide) ?_
      refine V.zret (y := (0 : Int32)) d_Mo_isName_17 rfl (by decide) ?_
      exact V.rI hq
    · replace hq := ifn hc hq
      refine V.iconst (x := 1) d_Mo_isName_12 (by decide) ?_
      refine V.goto (t := 17) d_Mo_isName_13 ⟨rfl, rfl⟩ ?_
      refine V.zret (y := (1 : Int32)) d_Mo_isName_17 rfl (by decide) ?_
      exact V.rI hq
set_option maxRecDepth 100000 in
theorem w_Mo_inSized {d : Nat} {K : Int32 → Hp → Prop} {x0 : Nat} {x1 : Int32} {h0 : Hp} (hq :
  ((hS h0 x0).1 = 8 ∧ (∀ v2 : Int32, v2 = ((hI h0 x0 28) - (1 : Int32)) → ((hS h0 (hR h0 x0 24)).1 = 20 ∧ (ainr v2 (hS h0 (hR h0 x0 24)).2 = true ∧ (∀ v5 : Int32, v5 = (hI h0 (hR h0 x0 24) v2.toNatClampNeg) → ((hS h0 (hR h0 x0 25)).1 = 20 ∧ (ainr v2 (hS h0 (hR h0 x0 25)).2 = true ∧ (if (hI h0 (hR h0 x0 25) v2.toNatClampNeg) = 0 then (if x1 < (49 : Int32) then K (0 : Int32) h0 else ((hS h0 (hR h0 x0 12)).1 = 20 ∧ (ainr v5 (hS h0 (hR h0 x0 12)).2 = true ∧ (if (hI h0 (hR h0 x0 12) v5.toNatClampNeg) = (112 : Int32) then (if (55 : Int32) < x1 then K (0 : Int32) h0 else ((hS h0 (hR h0 x0 13)).1 = 20 ∧ (¬ (hR h0 x0 13) = 1 ∧ (ainr v5 (hS h0 (hR h0 x0 13)).2 = true ∧ (∀ h13 : Hp, h13 = sI h0 (hR h0 x0 13) v5.toNatClampNeg (x1 - (48 : Int32)) → ((hS h0 (hR h13 x0 25)).1 = 20 ∧ (¬ (hR h13 x0 25) = 1 ∧ (ainr v2 (hS h0 (hR h13 x0 25)).2 = true ∧ (∀ h17 : Hp, h17 = sI h13 (hR h13 x0 25) v2.toNatClampNeg (1 : Int32) → K (1 : Int32) h17))))))))) else (if (52 : Int32) < x1 then K (0 : Int32) h0 else ((hS h0 (hR h0 x0 13)).1 = 20 ∧ (¬ (hR h0 x0 13) = 1 ∧ (ainr v5 (hS h0 (hR h0 x0 13)).2 = true ∧ (∀ h21 : Hp, h21 = sI h0 (hR h0 x0 13) v5.toNatClampNeg (x1 - (48 : Int32)) → ((hS h0 (hR h21 x0 25)).1 = 20 ∧ (¬ (hR h21 x0 25) = 1 ∧ (ainr v2 (hS h0 (hR h21 x0 25)).2 = true ∧ (∀ h25 : Hp, h25 = sI h21 (hR h21 x0 25) v2.toNatClampNeg (1 : Int32) → K (1 : Int32) h25))))))))))))) else (if (hI h0 (hR h0 x0 25) v2.toNatClampNeg) = (1 : Int32) then (if x1 = (60 : Int32) then Wp (d + 1) m_Mo_inSized 100 [some (.ref x0), some (.int x1), some (.int v2), some (.int v5)] [] h0 (QI K) else (if x1 = (62 : Int32) then Wp (d + 1) m_Mo_inSized 100 [some (.ref x0), some (.int x1), some (.int v2), some (.int v5)] [] h0 (QI K) else (if x1 = (61 : Int32) then Wp (d + 1) m_Mo_inSized 100 [some (.ref x0), some (.int x1), some (.int v2), some (.int v5)] [] h0 (QI K) else Wp (d + 1) m_Mo_inSized 123 [some (.ref x0), some (.int x1), some (.int v2), some (.int v5)] [] h0 (QI K)))) else Wp (d + 1) m_Mo_inSized 123 [some (.ref x0), some (.int x1), some (.int v2), some (.int v5)] [] h0 (QI K))))))))))) : Ca (d + 1) m_Mo_inSized [.ref x0, .int x1] h0 (QI K) := by
  show Wp _ _ 0 [some (.ref x0), some (.int x1), none, none] [] h0 _
  refine V.aload_n d_Mo_inSized_0 rfl ?_
  obtain ⟨g1, hq⟩ := hq
  refine V.get0 d_Mo_inSized_1 rfl (List.mem_singleton.mpr g1) ?_
  refine V.iconst (x := 1) d_Mo_inSized_4 (by decide) ?_
  refine V.isub d_Mo_inSized_5 ?_
  replace hq := hq _ rfl
  refine V.istore_n (l' := [_, _, _, _]) d_Mo_inSized_6 rfl (ltb rfl) ?_
  refine V.aload_n d_Mo_inSized_7 rfl ?_
  refine V.get2 d_Mo_inSized_8 rfl (List.mem_singleton.mpr g1) ?_
  refine V.iload_n d_Mo_inSized_11 rfl ?_
  obtain ⟨g3, hq⟩ := hq
  obtain ⟨g4, hq⟩ := hq
  refine V.iaload d_Mo_inSized_12 g3 g4 ?_
  replace hq := hq _ rfl
  refine V.istore_n (l' := [_, _, _, _]) d_Mo_inSized_13 rfl (ltb rfl) ?_
  refine V.aload_n d_Mo_inSized_14 rfl ?_
  refine V.get2 d_Mo_inSized_15 rfl (List.mem_singleton.mpr g1) ?_
  refine V.iload_n d_Mo_inSized_18 rfl ?_
  obtain ⟨g6, hq⟩ := hq
  obtain ⟨g7, hq⟩ := hq
  refine V.iaload d_Mo_inSized_19 g6 g7 ?_
  refine V.if_ne (t := 72) d_Mo_inSized_20 ⟨rfl, rfl⟩ (fun hc => ?_) (fun hc => ?_)
  · replace hq := ifp hc hq
    refine V.iload_n d_Mo_inSized_23 rfl ?_
    refine V.bipush (x := 49) d_Mo_inSized_24 (by decide) ?_
    refine V.ic_lt (t := 51) d_Mo_inSized_26 ⟨rfl, rfl⟩ (fun hc => ?_) (fun hc => ?_)
    · replace hq := ifp hc hq
      refine V.iconst (x := 0) d_Mo_inSized_51 (by decide) ?_
      refine V.iret d_Mo_inSized_52 rfl ?_
      exact V.rI hq
    · replace hq := ifn hc hq
      refine V.iload_n d_Mo_inSized_29 rfl ?_
      refine V.aload_n d_Mo_inSized_30 rfl ?_
      refine V.get2 d_Mo_inSized_31 rfl (List.mem_singleton.mpr g1) ?_
      refine V.iload_n d_Mo_inSized_34 rfl ?_
      obtain ⟨g8, hq⟩ := hq
      obtain ⟨g9, hq⟩ := hq
      refine V.iaload d_Mo_inSized_35 g8 g9 ?_
      refine V.bipush (x := 112) d_Mo_inSized_36 (by decide) ?_
      refine V.ic_ne (t := 46) d_Mo_inSized_38 ⟨rfl, rfl⟩ (fun hc => ?_) (fun hc => ?_)
      · replace hq := ifp hc hq
        refine V.bipush (x := 55) d_Mo_inSized_41 (by decide) ?_
        refine V.goto (t := 48) d_Mo_inSized_43 ⟨rfl, rfl⟩ ?_
        refine V.ic_le (t := 53) d_Mo_inSized_48 ⟨rfl, rfl⟩ (fun hc => ?_) (fun hc => ?_)
        · replace hq := ifp hc hq
          refine V.iconst (x := 0) d_Mo_inSized_51 (by decide) ?_
          refine V.iret d_Mo_inSized_52 rfl ?_
          exact V.rI hq
        · replace hq := ifn hc hq
          refine V.aload_n d_Mo_inSized_53 rfl ?_
          refine V.get2 d_Mo_inSized_54 rfl (List.mem_singleton.mpr g1) ?_
          refine V.iload_n d_Mo_inSized_57 rfl ?_
          refine V.iload_n d_Mo_inSized_58 rfl ?_
          refine V.bipush (x := 48) d_Mo_inSized_59 (by decide) ?_
          refine V.isub d_Mo_inSized_61 ?_
          obtain ⟨g10, hq⟩ := hq
          obtain ⟨g11, hq⟩ := hq
          obtain ⟨g12, hq⟩ := hq
          refine V.iastore d_Mo_inSized_62 g10 g11 g12 ?_
          replace hq := hq _ rfl
          refine V.aload_n d_Mo_inSized_63 rfl ?_
          refine V.get2 d_Mo_inSized_64 rfl (List.mem_singleton.mpr g1) ?_
          refine V.iload_n d_Mo_inSized_67 rfl ?_
          refine V.iconst (x := 1) d_Mo_inSized_68 (by decide) ?_
          obtain ⟨g14, hq⟩ := hq
          obtain ⟨g15, hq⟩ := hq
          obtain ⟨g16, hq⟩ := hq
          refine V.iastore d_Mo_inSized_69 g14 g15 g16 ?_
          replace hq := hq _ rfl
          refine V.iconst (x := 1) d_Mo_inSized_70 (by decide) ?_
          refine V.iret d_Mo_inSized_71 rfl ?_
          exact V.rI hq
      · replace hq := ifn hc hq
        refine V.bipush (x := 52) d_Mo_inSized_46 (by decide) ?_
        refine V.ic_le (t := 53) d_Mo_inSized_48 ⟨rfl, rfl⟩ (fun hc => ?_) (fun hc => ?_)
        · replace hq := ifp hc hq
          refine V.iconst (x := 0) d_Mo_inSized_51 (by decide) ?_
          refine V.iret d_Mo_inSized_52 rfl ?_
          exact V.rI hq
        · replace hq := ifn hc hq
          refine V.aload_n d_Mo_inSized_53 rfl ?_
          refine V.get2 d_Mo_inSized_54 rfl (List.mem_singleton.mpr g1) ?_
          refine V.iload_n d_Mo_inSized_57 rfl ?_
          refine V.iload_n d_Mo_inSized_58 rfl ?_
          refine V.bipush (x := 48) d_Mo_inSized_59 (by decide) ?_
          refine V.isub d_Mo_inSized_61 ?_
          obtain ⟨g18, hq⟩ := hq
          obtain ⟨g19, hq⟩ := hq
          obtain ⟨g20, hq⟩ := hq
          refine V.iastore d_Mo_inSized_62 g18 g19 g20 ?_
          replace hq := hq _ rfl
          refine V.aload_n d_Mo_inSized_63 rfl ?_
          refine V.get2 d_Mo_inSized_64 rfl (List.mem_singleton.mpr g1) ?_
          refine V.iload_n d_Mo_inSized_67 rfl ?_
          refine V.iconst (x := 1) d_Mo_inSized_68 (by decide) ?_
          obtain ⟨g22, hq⟩ := hq
          obtain ⟨g23, hq⟩ := hq
          obtain ⟨g24, hq⟩ := hq
          refine V.iastore d_Mo_inSized_69 g22 g23 g24 ?_
          replace hq := hq _ rfl
          refine V.iconst (x := 1) d_Mo_inSized_70 (by decide) ?_
          refine V.iret d_Mo_inSized_71 rfl ?_
          exact V.rI hq
  · replace hq := ifn hc hq
    refine V.aload_n d_Mo_inSized_72 rfl ?_
    refine V.get2 d_Mo_inSized_73 rfl (List.mem_singleton.mpr g1) ?_
    refine V.iload_n d_Mo_inSized_76 rfl ?_
    refine V.iaload d_Mo_inSized_77 g6 g7 ?_
    refine V.iconst (x := 1) d_Mo_inSized_78 (by decide) ?_
    refine V.ic_ne (t := 123) d_Mo_inSized_79 ⟨rfl, rfl⟩ (fun hc => ?_) (fun hc => ?_)
    · replace hq := ifp hc hq
      refine V.iload_n d_Mo_inSized_82 rfl ?_
      refine V.bipush (x := 60) d_Mo_inSized_83 (by decide) ?_
      refine V.ic_eq (t := 100) d_Mo_inSized_85 ⟨rfl, rfl⟩ (fun hc => ?_) (fun hc => ?_)
      · replace hq := ifp hc hq
        exact hq
      · replace hq := ifn hc hq
        refine V.iload_n d_Mo_inSized_88 rfl ?_
        refine V.bipush (x := 62) d_Mo_inSized_89 (by decide) ?_
        refine V.ic_eq (t := 100) d_Mo_inSized_91 ⟨rfl, rfl⟩ (fun hc => ?_) (fun hc => ?_)
        · replace hq := ifp hc hq
          exact hq
        · replace hq := ifn hc hq
          refine V.iload_n d_Mo_inSized_94 rfl ?_
          refine V.bipush (x := 61) d_Mo_inSized_95 (by decide) ?_
          refine V.ic_ne (t := 123) d_Mo_inSized_97 ⟨rfl, rfl⟩ (fun hc => ?_) (fun hc => ?_)
          · replace hq := ifp hc hq
            exact hq
          · replace hq := ifn hc hq
            exact hq
    · replace hq := ifn hc hq
      exact hq
theorem w_Mo_inSized_100 {d : Nat} {K : Int32 → Hp → Prop} {x0 : Nat} {x1 : Int32} {x2 : Int32} {x3 : Int32} {h0 : Hp} (hq :
  ((hS h0 x0).1 = 8 ∧ ((hS h0 (hR h0 x0 14)).1 = 20 ∧ (¬ (hR h0 x0 14) = 1 ∧ (ainr x3 (hS h0 (hR h0 x0 14)).2 = true ∧ (∀ h30 : Hp, h30 = sI h0 (hR h0 x0 14) x3.toNatClampNeg x1 → ((hS h0 (hR h30 x0 25)).1 = 20 ∧ (¬ (hR h30 x0 25) = 1 ∧ (ainr x2 (hS h0 (hR h30 x0 25)).2 = true ∧ (∀ h34 : Hp, h34 = sI h30 (hR h30 x0 25) x2.toNatClampNeg (2 : Int32) → ((hS h0 (hR h34 x0 26)).1 = 20 ∧ (¬ (hR h34 x0 26) = 1 ∧ (ainr x2 (hS h0 (hR h34 x0 26)).2 = true ∧ (∀ h38 : Hp, h38 = sI h34 (hR h34 x0 26) x2.toNatClampNeg (0 : Int32) → K (1 : Int32) h38)))))))))))))) : Wp (d + 1) m_Mo_inSized 100 [some (.ref x0), some (.int x1), some (.int x2), some (.int x3)] [] h0 (QI K) := by
  refine V.aload_n d_Mo_inSized_100 rfl ?_
  obtain ⟨g26, hq⟩ := hq
  refine V.get2 d_Mo_inSized_101 rfl (List.mem_singleton.mpr g26) ?_
  refine V.iload_n d_Mo_inSized_104 rfl ?_
  refine V.iload_n d_Mo_inSized_105 rfl ?_
  obtain ⟨g27, hq⟩ := hq
  obtain ⟨g28, hq⟩ := hq
  obtain ⟨g29, hq⟩ := hq
  refine V.iastore d_Mo_inSized_106 g27 g28 g29 ?_
  replace hq := hq _ rfl
  refine V.aload_n d_Mo_inSized_107 rfl ?_
  refine V.get2 d_Mo_inSized_108 rfl (List.mem_singleton.mpr g26) ?_
  refine V.iload_n d_Mo_inSized_111 rfl ?_
  refine V.iconst (x := 2) d_Mo_inSized_112 (by decide) ?_
  obtain ⟨g31, hq⟩ := hq
  obtain ⟨g32, hq⟩ := hq
  obtain ⟨g33, hq⟩ := hq
  refine V.iastore d_Mo_inSized_113 g31 g32 g33 ?_
  replace hq := hq _ rfl
  refine V.aload_n d_Mo_inSized_114 rfl ?_
  refine V.get2 d_Mo_inSized_115 rfl (List.mem_singleton.mpr g26) ?_
  refine V.iload_n d_Mo_inSized_118 rfl ?_
  refine V.iconst (x := 0) d_Mo_inSized_119 (by decide) ?_
  obtain ⟨g35, hq⟩ := hq
  obtain ⟨g36, hq⟩ := hq
  obtain ⟨g37, hq⟩ := hq
  refine V.iastore d_Mo_inSized_120 g35 g36 g37 ?_
  replace hq := hq _ rfl
  refine V.iconst (x := 1) d_Mo_inSized_121 (by decide) ?_
  refine V.iret d_Mo_inSized_122 rfl ?_
  exact V.rI hq
theorem w_Mo_inSized_123 {d : Nat} {K : Int32 → Hp → Prop} {x0 : Nat} {x1 : Int32} {x2 : Int32} {x3 : Int32} {h0 : Hp} (hq :
  ((hS h0 x0).1 = 8 ∧ ((hS h0 (hR h0 x0 25)).1 = 20 ∧ (ainr x2 (hS h0 (hR h0 x0 25)).2 = true ∧ (if (hI h0 (hR h0 x0 25) x2.toNatClampNeg) = (2 : Int32) then Wp (d + 1) m_Mo_inSized 153 [some (.ref x0), some (.int x1), some (.int x2), some (.int x3)] [] h0 (QI K) else (if (hI h0 (hR h0 x0 25) x2.toNatClampNeg) = (3 : Int32) then ((hS h0 (hR h0 x0 26)).1 = 20 ∧ (ainr x2 (hS h0 (hR h0 x0 26)).2 = true ∧ (if (hI h0 (hR h0 x0 26) x2.toNatClampNeg) < (3 : Int32) then Wp (d + 1) m_Mo_inSized 153 [some (.ref x0), some (.int x1), some (.int x2), some (.int x3)] [] h0 (QI K) else Ca d m_Mo_finish [.ref x0] h0 (QV (fun h44 => K (2 : Int32) h44))))) else Ca d m_Mo_finish [.ref x0] h0 (QV (fun h46 => K (2 : Int32) h46)))))))) : Wp (d + 1) m_Mo_inSized 123 [some (.ref x0), some (.int x1), some (.int x2), some (.int x3)] [] h0 (QI K) := by
  refine V.aload_n d_Mo_inSized_123 rfl ?_
  obtain ⟨g39, hq⟩ := hq
  refine V.get2 d_Mo_inSized_124 rfl (List.mem_singleton.mpr g39) ?_
  refine V.iload_n d_Mo_inSized_127 rfl ?_
  obtain ⟨g40, hq⟩ := hq
  obtain ⟨g41, hq⟩ := hq
  refine V.iaload d_Mo_inSized_128 g40 g41 ?_
  refine V.iconst (x := 2) d_Mo_inSized_129 (by decide) ?_
  refine V.ic_eq (t := 153) d_Mo_inSized_130 ⟨rfl, rfl⟩ (fun hc => ?_) (fun hc => ?_)
  · replace hq := ifp hc hq
    exact hq
  · replace hq := ifn hc hq
    refine V.aload_n d_Mo_inSized_133 rfl ?_
    refine V.get2 d_Mo_inSized_134 rfl (List.mem_singleton.mpr g39) ?_
    refine V.iload_n d_Mo_inSized_137 rfl ?_
    refine V.iaload d_Mo_inSized_138 g40 g41 ?_
    refine V.iconst (x := 3) d_Mo_inSized_139 (by decide) ?_
    refine V.ic_ne (t := 212) d_Mo_inSized_140 ⟨rfl, rfl⟩ (fun hc => ?_) (fun hc => ?_)
    · replace hq := ifp hc hq
      refine V.aload_n d_Mo_inSized_143 rfl ?_
      refine V.get2 d_Mo_inSized_144 rfl (List.mem_singleton.mpr g39) ?_
      refine V.iload_n d_Mo_inSized_147 rfl ?_
      obtain ⟨g42, hq⟩ := hq
      obtain ⟨g43, hq⟩ := hq
      refine V.iaload d_Mo_inSized_148 g42 g43 ?_
      refine V.iconst (x := 3) d_Mo_inSized_149 (by decide) ?_
      refine V.ic_ge (t := 212) d_Mo_inSized_150 ⟨rfl, rfl⟩ (fun hc => ?_) (fun hc => ?_)
      · replace hq := ifp hc hq
        exact hq
      · replace hq := ifn hc hq
        refine V.aload_n d_Mo_inSized_212 rfl ?_
        refine V.callV d_Mo_inSized_213 (cV_call (t := []) (rs := []) rfl (Or.inl rfl) rfl (lk1 g39) ⟨leb rfl, leb rfl⟩) hq (fun h44 hq => ?_)
        refine V.iconst (x := 2) d_Mo_inSized_216 (by decide) ?_
        refine V.iret d_Mo_inSized_217 rfl ?_
        exact V.rI hq
    · replace hq := ifn hc hq
      refine V.aload_n d_Mo_inSized_212 rfl ?_
      refine V.callV d_Mo_inSized_213 (cV_call (t := []) (rs := []) rfl (Or.inl rfl) rfl (lk1 g39) ⟨leb rfl, leb rfl⟩) hq (fun h46 hq => ?_)
      refine V.iconst (x := 2) d_Mo_inSized_216 (by decide) ?_
      refine V.iret d_Mo_inSized_217 rfl ?_
      exact V.rI hq
theorem w_Mo_inSized_153 {d : Nat} {K : Int32 → Hp → Prop} {x0 : Nat} {x1 : Int32} {x2 : Int32} {x3 : Int32} {h0 : Hp} (hq :
  ((hS h0 x0).1 = 8 ∧ Ca d m_Mo_isDigit [.ref x0, .int x1] h0 (QI (fun v49 h50 => (if v49 = 0 then ((hS h50 x0).1 = 8 ∧ ((hS h50 (hR h50 x0 25)).1 = 20 ∧ (ainr x2 (hS h50 (hR h50 x0 25)).2 = true ∧ (if (hI h50 (hR h50 x0 25) x2.toNatClampNeg) = (2 : Int32) then K (0 : Int32) h50 else Ca d m_Mo_finish [.ref x0] h50 (QV (fun h55 => K (2 : Int32) h55)))))) else ((hS h50 x0).1 = 8 ∧ ((hS h50 (hR h50 x0 15)).1 = 20 ∧ (ainr x3 (hS h50 (hR h50 x0 15)).2 = true ∧ (¬ (hR h50 x0 15) = 1 ∧ (∀ h61 : Hp, h61 = sI h50 (hR h50 x0 15) x3.toNatClampNeg ((((hI h50 (hR h50 x0 15) x3.toNatClampNeg) * (10 : Int32)) + x1) - (48 : Int32)) → ((hS h50 (hR h61 x0 26)).1 = 20 ∧ (ainr x2 (hS h50 (hR h61 x0 26)).2 = true ∧ (¬ (hR h61 x0 26) = 1 ∧ (∀ h65 : Hp, h65 = sI h61 (hR h61 x0 26) x2.toNatClampNeg ((hI h61 (hR h61 x0 26) x2.toNatClampNeg) + (1 : Int32)) → ((hS h50 (hR h65 x0 25)).1 = 20 ∧ (¬ (hR h65 x0 25) = 1 ∧ (ainr x2 (hS h50 (hR h65 x0 25)).2 = true ∧ (∀ h69 : Hp, h69 = sI h65 (hR h65 x0 25) x2.toNatClampNeg (3 : Int32) → K (1 : Int32) h69)))))))))))))))))) : Wp (d + 1) m_Mo_inSized 153 [some (.ref x0), some (.int x1), some (.int x2), some (.int x3)] [] h0 (QI K) := by
  refine V.aload_n d_Mo_inSized_153 rfl ?_
  refine V.iload_n d_Mo_inSized_154 rfl ?_
  obtain ⟨g48, hq⟩ := hq
  refine V.callI d_Mo_inSized_155 (cV_call (t := [_]) (rs := []) rfl (Or.inl rfl) rfl (lk1 g48) ⟨leb rfl, leb rfl⟩) hq (fun v49 h50 hq => ?_)
  refine V.if_eq (t := 200) d_Mo_inSized_158 ⟨rfl, rfl⟩ (fun hc => ?_) (fun hc => ?_)
  · replace hq := ifp hc hq
    refine V.aload_n d_Mo_inSized_200 rfl ?_
    obtain ⟨g52, hq⟩ := hq
    refine V.get2 d_Mo_inSized_201 rfl (List.mem_singleton.mpr g52) ?_
    refine V.iload_n d_Mo_inSized_204 rfl ?_
    obtain ⟨g53, hq⟩ := hq
    obtain ⟨g54, hq⟩ := hq
    refine V.iaload d_Mo_inSized_205 g53 g54 ?_
    refine V.iconst (x := 2) d_Mo_inSized_206 (by decide) ?_
    refine V.ic_ne (t := 212) d_Mo_inSized_207 ⟨rfl, rfl⟩ (fun hc => ?_) (fun hc => ?_)
    · replace hq := ifp hc hq
      refine V.iconst (x := 0) d_Mo_inSized_210 (by decide) ?_
      refine V.iret d_Mo_inSized_211 rfl ?_
      exact V.rI hq
    · replace hq := ifn hc hq
      refine V.aload_n d_Mo_inSized_212 rfl ?_
      refine V.callV d_Mo_inSized_213 (cV_call (t := []) (rs := []) rfl (Or.inl rfl) rfl (lk1 g52) ⟨leb rfl, leb rfl⟩) hq (fun h55 hq => ?_)
      refine V.iconst (x := 2) d_Mo_inSized_216 (by decide) ?_
      refine V.iret d_Mo_inSized_217 rfl ?_
      exact V.rI hq
  · replace hq := ifn hc hq
    refine V.aload_n d_Mo_inSized_161 rfl ?_
    obtain ⟨g57, hq⟩ := hq
    refine V.get2 d_Mo_inSized_162 rfl (List.mem_singleton.mpr g57) ?_
    refine V.iload_n d_Mo_inSized_165 rfl ?_
    refine V.aload_n d_Mo_inSized_166 rfl ?_
    refine V.get2 d_Mo_inSized_167 rfl (List.mem_singleton.mpr g57) ?_
    refine V.iload_n d_Mo_inSized_170 rfl ?_
    obtain ⟨g58, hq⟩ := hq
    obtain ⟨g59, hq⟩ := hq
    refine V.iaload d_Mo_inSized_171 g58 g59 ?_
    refine V.bipush (x := 10) d_Mo_inSized_172 (by decide) ?_
    refine V.imul d_Mo_inSized_174 ?_
    refine V.iload_n d_Mo_inSized_175 rfl ?_
    refine V.iadd d_Mo_inSized_176 ?_
    refine V.bipush (x := 48) d_Mo_inSized_177 (by decide) ?_
    refine V.isub d_Mo_inSized_179 ?_
    obtain ⟨g60, hq⟩ := hq
    refine V.iastore d_Mo_inSized_180 g58 g60 g59 ?_
    replace hq := hq _ rfl
    refine V.aload_n d_Mo_inSized_181 rfl ?_
    refine V.get2 d_Mo_inSized_182 rfl (List.mem_singleton.mpr g57) ?_
    refine V.iload_n d_Mo_inSized_185 rfl ?_
    refine V.dup2 d_Mo_inSized_186 ?_
    obtain ⟨g62, hq⟩ := hq
    obtain ⟨g63, hq⟩ := hq
    refine V.iaload d_Mo_inSized_187 g62 g63 ?_
    refine V.iconst (x := 1) d_Mo_inSized_188 (by decide) ?_
    refine V.iadd d_Mo_inSized_189 ?_
    obtain ⟨g64, hq⟩ := hq
    refine V.iastore d_Mo_inSized_190 g62 g64 g63 ?_
    replace hq := hq _ rfl
    refine V.aload_n d_Mo_inSized_191 rfl ?_
    refine V.get2 d_Mo_inSized_192 rfl (List.mem_singleton.mpr g57) ?_
    refine V.iload_n d_Mo_inSized_195 rfl ?_
    refine V.iconst (x := 3) d_Mo_inSized_196 (by decide) ?_
    obtain ⟨g66, hq⟩ := hq
    obtain ⟨g67, hq⟩ := hq
    obtain ⟨g68, hq⟩ := hq
    refine V.iastore d_Mo_inSized_197 g66 g67 g68 ?_
    replace hq := hq _ rfl
    refine V.iconst (x := 1) d_Mo_inSized_198 (by decide) ?_
    refine V.iret d_Mo_inSized_199 rfl ?_
    exact V.rI hq
