theorem w_La_law {d : Nat} {K : Int32 → Hp → Prop} {x0 : Nat} {h0 : Hp} (hq :
  (room h0 10 = true ∧ (∀ a2 : Nat, a2 = hN h0 → (∀ h3 : Hp, h3 = hNew h0 7 0 10 → ((hS h3 a2).1 = 7 ∧ Ca d m_Ff_init [.ref a2] h3 (QV (fun h6 => (room h6 49 = true ∧ (∀ a9 : Nat, a9 = hN h6 → (∀ h10 : Hp, h10 = hNew h6 8 0 49 → ((hS h10 a9).1 = 8 ∧ Ca d m_Mo_init [.ref a9] h10 (QV (fun h13 => ((¬ (1 : Int32) < 0 ∧ (1 : Int32).toNatClampNeg ≤ 100000 ∧ room h13 (1 : Int32).toNatClampNeg = true) ∧ (∀ a16 : Nat, a16 = hN h13 → (∀ h17 : Hp, h17 = hNew h13 21 (1 : Int32).toNatClampNeg (1 : Int32).toNatClampNeg → ((¬ (1 : Int32) < 0 ∧ (1 : Int32).toNatClampNeg ≤ 100000 ∧ room h17 (1 : Int32).toNatClampNeg = true) ∧ (∀ a20 : Nat, a20 = hN h17 → (∀ h21 : Hp, h21 = hNew h17 23 (1 : Int32).toNatClampNeg (1 : Int32).toNatClampNeg → Wp (d + 1) m_La_law 28 [some (.ref x0), some (.ref a2), some (.ref a9), some (.ref a16), some (.ref a20), some (.int (0 : Int32)), none, none, none] [] h21 (QI K)))))))))))))))))))) : Ca (d + 1) m_La_law [.ref x0] h0 (QI K) := by
  show Wp _ _ 0 [some (.ref x0), none, none, none, none, none, none, none, none] [] h0 _
  obtain ⟨g1, hq⟩ := hq
  refine V.new d_La_law_0 rfl (by decide) g1 ?_
  replace hq := hq _ rfl
  replace hq := hq _ rfl
  refine V.dupR d_La_law_3 ?_
  obtain ⟨g5, hq⟩ := hq
  refine V.callV d_La_law_4 (cI_call (t := []) (rs := [_]) rfl rfl (lk1 g5) ⟨leb rfl, leb rfl⟩) hq (fun h6 hq => ?_)
  refine V.astore_n (l' := [_, _, _, _, _, _, _, _, _]) d_La_law_7 rfl (ltb rfl) ?_
  obtain ⟨g8, hq⟩ := hq
  refine V.new d_La_law_8 rfl (by decide) g8 ?_
  replace hq := hq _ rfl
  replace hq := hq _ rfl
  refine V.dupR d_La_law_11 ?_
  obtain ⟨g12, hq⟩ := hq
  refine V.callV d_La_law_12 (cI_call (t := []) (rs := [_]) rfl rfl (lk1 g12) ⟨leb rfl, leb rfl⟩) hq (fun h13 hq => ?_)
  refine V.astore_n (l' := [_, _, _, _, _, _, _, _, _]) d_La_law_15 rfl (ltb rfl) ?_
  refine V.iconst (x := 1) d_La_law_16 (by decide) ?_
  obtain ⟨g15, hq⟩ := hq
  refine V.newa d_La_law_17 rfl g15 ?_
  replace hq := hq _ rfl
  replace hq := hq _ rfl
  refine V.astore_n (l' := [_, _, _, _, _, _, _, _, _]) d_La_law_19 rfl (ltb rfl) ?_
  refine V.iconst (x := 1) d_La_law_20 (by decide) ?_
  obtain ⟨g19, hq⟩ := hq
  refine V.newa d_La_law_21 rfl g19 ?_
  replace hq := hq _ rfl
  replace hq := hq _ rfl
  refine V.astore (l' := [_, _, _, _, _, _, _, _, _]) d_La_law_23 rfl (ltb rfl) ?_
  refine V.iconst (x := 0) d_La_law_25 (by decide) ?_
  refine V.istore (l' := [_, _, _, _, _, _, _, _, _]) d_La_law_26 rfl (ltb rfl) ?_
  exact hq
set_option maxRecDepth 100000 in
theorem w_La_law_28 {d : Nat} {K : Int32 → Hp → Prop} {x0 : Nat} {x1 : Nat} {x2 : Nat} {x3 : Nat} {x4 : Nat} {x5 : Int32} {y6 : Option Value} {y7 : Option Value} {y8 : Option Value} {h0 : Hp} (hq :
  (isArr (hS h0 x0).1 = true ∧ (if ((Int32.ofNat (hS h0 x0).2) - (4 : Int32)) < x5 then K (1 : Int32) h0 else ((hS h0 x0).1 = 20 ∧ (ainr x5 (hS h0 x0).2 = true ∧ (if ((hI h0 x0 x5.toNatClampNeg) &&& (15 : Int32)).toInt = 0 then (ainr (x5 + (1 : Int32)) (hS h0 x0).2 = true ∧ (ainr (x5 + (2 : Int32)) (hS h0 x0).2 = true ∧ Ca d m_La_type [.ref x1, .long ((((hI h0 x0 (x5 + (1 : Int32)).toNatClampNeg).toInt64) <<< ((32 : Int32).toInt64 &&& 63)) ||| (((hI h0 x0 (x5 + (2 : Int32)).toNatClampNeg).toInt64) &&& (4294967295 : Int64))), .ref x3] h0 (QI (fun v28 h29 => ((hS h29 x0).1 = 20 ∧ (ainr (x5 + (1 : Int32)) (hS h29 x0).2 = true ∧ (ainr (x5 + (2 : Int32)) (hS h29 x0).2 = true ∧ ((hS h29 x2).1 = 8 ∧ Ca d m_Mo_type [.ref x2, .long ((((hI h29 x0 (x5 + (1 : Int32)).toNatClampNeg).toInt64) <<< ((32 : Int32).toInt64 &&& 63)) ||| (((hI h29 x0 (x5 + (2 : Int32)).toNatClampNeg).toInt64) &&& (4294967295 : Int64)))] h29 (QI (fun v35 h36 => ((hS h36 x2).1 = 8 ∧ Ca d m_Mo_thrown [.ref x2] h36 (QI (fun v39 h40 => (if v39 = v28 then (if v28 = 0 then ((hS h40 x3).1 = 21 ∧ (ainr (0 : Int32) (hS h40 x3).2 = true ∧ (if (hL h40 x3 (0 : Int32).toNatClampNeg) = (v35.toInt64) then Wp (d + 1) m_La_law 1006 [some (.ref x0), some (.ref x1), some (.ref x2), some (.ref x3), some (.ref x4), some (.int x5), some (.int v28), some (.int v35), y8] [] h40 (QI K) else K (0 : Int32) h40))) else Wp (d + 1) m_La_law 1006 [some (.ref x0), some (.ref x1), some (.ref x2), some (.ref x3), some (.ref x4), some (.int x5), some (.int v28), some (.int v35), y8] [] h40 (QI K)) else K (0 : Int32) h40)))))))))))))) else (if ((hI h0 x0 x5.toNatClampNeg) &&& (15 : Int32)).toInt = 1 then ((hS h0 x1).1 = 7 ∧ Ca d m_Ff_clear [.ref x1] h0 (QI (fun v45 h46 => ((hS h46 x2).1 = 8 ∧ Ca d m_Mo_clear [.ref x2] h46 (QI (fun v49 h50 => (if v45 = v49 then Wp (d + 1) m_La_law 1006 [some (.ref x0), some (.ref x1), some (.ref x2), some (.ref x3), some (.ref x4), some (.int x5), y6, y7, y8] [] h50 (QI K) else K (0 : Int32) h50))))))) else (if ((hI h0 x0 x5.toNatClampNeg) &&& (15 : Int32)).toInt = 2 then ((hS h0 x1).1 = 7 ∧ Ca d m_Ff_fault [.ref x1] h0 (QI (fun v53 h54 => ((hS h54 x2).1 = 8 ∧ Ca d m_Mo_fault [.ref x2] h54 (QI (fun v57 h58 => (if v53 = v57 then Wp (d + 1) m_La_law 1006 [some (.ref x0), some (.ref x1), some (.ref x2), some (.ref x3), some (.ref x4), some (.int x5), y6, y7, y8] [] h58 (QI K) else K (0 : Int32) h58))))))) else (if ((hI h0 x0 x5.toNatClampNeg) &&& (15 : Int32)).toInt = 3 then Ca d m_La_compile [.ref x1, .ref x3] h0 (QI (fun v60 h61 => ((hS h61 x2).1 = 8 ∧ Ca d m_Mo_compile [.ref x2] h61 (QI (fun v64 h65 => ((hS h65 x2).1 = 8 ∧ Ca d m_Mo_thrown [.ref x2] h65 (QI (fun v68 h69 => (if v68 = v60 then (if v60 = 0 then ((hS h69 x3).1 = 21 ∧ (ainr (0 : Int32) (hS h69 x3).2 = true ∧ (if (hL h69 x3 (0 : Int32).toNatClampNeg) = (v64.toInt64) then Wp (d + 1) m_La_law 1006 [some (.ref x0), some (.ref x1), some (.ref x2), some (.ref x3), some (.ref x4), some (.int x5), some (.int v60), some (.int v64), y8] [] h69 (QI K) else K (0 : Int32) h69))) else Wp (d + 1) m_La_law 1006 [some (.ref x0), some (.ref x1), some (.ref x2), some (.ref x3), some (.ref x4), some (.int x5), some (.int v60), some (.int v64), y8] [] h69 (QI K)) else K (0 : Int32) h69))))))))) else (if ((hI h0 x0 x5.toNatClampNeg) &&& (15 : Int32)).toInt = 4 then (ainr (x5 + (1 : Int32)) (hS h0 x0).2 = true ∧ (if (hI h0 x0 (x5 + (1 : Int32)).toNatClampNeg) = 0 then Ca d m_La_size [.ref x1, .int (0 : Int32), .ref x3] h0 (QI (fun v74 h75 => ((hS h75 x0).1 = 20 ∧ (ainr (x5 + (1 : Int32)) (hS h75 x0).2 = true ∧ (if (hI h75 x0 (x5 + (1 : Int32)).toNatClampNeg) = 0 then ((hS h75 x2).1 = 8 ∧ Ca d m_Mo_size [.ref x2, .int (0 : Int32)] h75 (QI (fun v80 h81 => ((hS h81 x2).1 = 8 ∧ Ca d m_Mo_thrown [.ref x2] h81 (QI (fun v84 h85 => (if v84 = v74 then (if v74 = 0 then ((hS h85 x3).1 = 21 ∧ (ainr (0 : Int32) (hS h85 x3).2 = true ∧ (if (hL h85 x3 (0 : Int32).toNatClampNeg) = (v80.toInt64) then Wp (d + 1) m_La_law 1006 [some (.ref x0), some (.ref x1), some (.ref x2), some (.ref x3), some (.ref x4), some (.int x5), some (.int v74), some (.int v80), y8] [] h85 (QI K) else K (0 : Int32) h85))) else Wp (d + 1) m_La_law 1006 [some (.ref x0), some (.ref x1), some (.ref x2), some (.ref x3), some (.ref x4), some (.int x5), some (.int v74), some (.int v80), y8] [] h85 (QI K)) else K (0 : Int32) h85))))))) else ((hS h75 x2).1 = 8 ∧ Ca d m_Mo_size [.ref x2, .int (1 : Int32)] h75 (QI (fun v90 h91 => ((hS h91 x2).1 = 8 ∧ Ca d m_Mo_thrown [.ref x2] h91 (QI (fun v94 h95 => (if v94 = v74 then (if v74 = 0 then ((hS h95 x3).1 = 21 ∧ (ainr (0 : Int32) (hS h95 x3).2 = true ∧ (if (hL h95 x3 (0 : Int32).toNatClampNeg) = (v90.toInt64) then Wp (d + 1) m_La_law 1006 [some (.ref x0), some (.ref x1), some (.ref x2), some (.ref x3), some (.ref x4), some (.int x5), some (.int v74), some (.int v90), y8] [] h95 (QI K) else K (0 : Int32) h95))) else Wp (d + 1) m_La_law 1006 [some (.ref x0), some (.ref x1), some (.ref x2), some (.ref x3), some (.ref x4), some (.int x5), some (.int v74), some (.int v90), y8] [] h95 (QI K)) else K (0 : Int32) h95)))))))))))) else Ca d m_La_size [.ref x1, .int (1 : Int32), .ref x3] h0 (QI (fun v99 h100 => ((hS h100 x0).1 = 20 ∧ (ainr (x5 + (1 : Int32)) (hS h100 x0).2 = true ∧ (if (hI h100 x0 (x5 + (1 : Int32)).toNatClampNeg) = 0 then ((hS h100 x2).1 = 8 ∧ Ca d m_Mo_size [.ref x2, .int (0 : Int32)] h100 (QI (fun v105 h106 => ((hS h106 x2).1 = 8 ∧ Ca d m_Mo_thrown [.ref x2] h106 (QI (fun v109 h110 => (if v109 = v99 then (if v99 = 0 then ((hS h110 x3).1 = 21 ∧ (ainr (0 : Int32) (hS h110 x3).2 = true ∧ (if (hL h110 x3 (0 : Int32).toNatClampNeg) = (v105.toInt64) then Wp (d + 1) m_La_law 1006 [some (.ref x0), some (.ref x1), some (.ref x2), some (.ref x3), some (.ref x4), some (.int x5), some (.int v99), some (.int v105), y8] [] h110 (QI K) else K (0 : Int32) h110))) else Wp (d + 1) m_La_law 1006 [some (.ref x0), some (.ref x1), some (.ref x2), some (.ref x3), some (.ref x4), some (.int x5), some (.int v99), some (.int v105), y8] [] h110 (QI K)) else K (0 : Int32) h110))))))) else ((hS h100 x2).1 = 8 ∧ Ca d m_Mo_size [.ref x2, .int (1 : Int32)] h100 (QI (fun v115 h116 => ((hS h116 x2).1 = 8 ∧ Ca d m_Mo_thrown [.ref x2] h116 (QI (fun v119 h120 => (if v119 = v99 then (if v99 = 0 then ((hS h120 x3).1 = 21 ∧ (ainr (0 : Int32) (hS h120 x3).2 = true ∧ (if (hL h120 x3 (0 : Int32).toNatClampNeg) = (v115.toInt64) then Wp (d + 1) m_La_law 1006 [some (.ref x0), some (.ref x1), some (.ref x2), some (.ref x3), some (.ref x4), some (.int x5), some (.int v99), some (.int v115), y8] [] h120 (QI K) else K (0 : Int32) h120))) else Wp (d + 1) m_La_law 1006 [some (.ref x0), some (.ref x1), some (.ref x2), some (.ref x3), some (.ref x4), some (.int x5), some (.int v99), some (.int v115), y8] [] h120 (QI K)) else K (0 : Int32) h120)))))))))))))) else (if ((hI h0 x0 x5.toNatClampNeg) &&& (15 : Int32)).toInt = 5 then (ainr (x5 + (1 : Int32)) (hS h0 x0).2 = true ∧ (ainr (x5 + (2 : Int32)) (hS h0 x0).2 = true ∧ (ainr (x5 + (3 : Int32)) (hS h0 x0).2 = true ∧ Ca d m_La_put [.ref x1, .long ((((hI h0 x0 (x5 + (1 : Int32)).toNatClampNeg).toInt64) <<< ((32 : Int32).toInt64 &&& 63)) ||| (((hI h0 x0 (x5 + (2 : Int32)).toNatClampNeg).toInt64) &&& (4294967295 : Int64))), .int (hI h0 x0 (x5 + (3 : Int32)).toNatClampNeg), .ref x3] h0 (QI (fun v127 h128 => ((hS h128 x0).1 = 20 ∧ (ainr (x5 + (1 : Int32)) (hS h128 x0).2 = true ∧ (ainr (x5 + (2 : Int32)) (hS h128 x0).2 = true ∧ (ainr (x5 + (3 : Int32)) (hS h128 x0).2 = true ∧ ((hS h128 x2).1 = 8 ∧ Ca d m_Mo_put [.ref x2, .long ((((hI h128 x0 (x5 + (1 : Int32)).toNatClampNeg).toInt64) <<< ((32 : Int32).toInt64 &&& 63)) ||| (((hI h128 x0 (x5 + (2 : Int32)).toNatClampNeg).toInt64) &&& (4294967295 : Int64))), .int (hI h128 x0 (x5 + (3 : Int32)).toNatClampNeg)] h128 (QI (fun v135 h136 => ((hS h136 x2).1 = 8 ∧ Ca d m_Mo_thrown [.ref x2] h136 (QI (fun v139 h140 => (if v139 = v127 then (if v127 = 0 then ((hS h140 x3).1 = 21 ∧ (ainr (0 : Int32) (hS h140 x3).2 = true ∧ (if (hL h140 x3 (0 : Int32).toNatClampNeg) = (v135.toInt64) then Wp (d + 1) m_La_law 1006 [some (.ref x0), some (.ref x1), some (.ref x2), some (.ref x3), some (.ref x4), some (.int x5), some (.int v127), some (.int v135), y8] [] h140 (QI K) else K (0 : Int32) h140))) else Wp (d + 1) m_La_law 1006 [some (.ref x0), some (.ref x1), some (.ref x2), some (.ref x3), some (.ref x4), some (.int x5), some (.int v127), some (.int v135), y8] [] h140 (QI K)) else K (0 : Int32) h140)))))))))))))))) else (if ((hI h0 x0 x5.toNatClampNeg) &&& (15 : Int32)).toInt = 6 then (ainr (x5 + (1 : Int32)) (hS h0 x0).2 = true ∧ Ca d m_La_cut [.ref x1, .int (hI h0 x0 (x5 + (1 : Int32)).toNatClampNeg), .ref x3] h0 (QI (fun v145 h146 => ((hS h146 x0).1 = 20 ∧ (ainr (x5 + (1 : Int32)) (hS h146 x0).2 = true ∧ ((hS h146 x2).1 = 8 ∧ Ca d m_Mo_cut [.ref x2, .int (hI h146 x0 (x5 + (1 : Int32)).toNatClampNeg)] h146 (QI (fun v151 h152 => ((hS h152 x2).1 = 8 ∧ Ca d m_Mo_thrown [.ref x2] h152 (QI (fun v155 h156 => (if v155 = v145 then (if v145 = 0 then ((hS h156 x3).1 = 21 ∧ (ainr (0 : Int32) (hS h156 x3).2 = true ∧ (if (hL h156 x3 (0 : Int32).toNatClampNeg) = (v151.toInt64) then Wp (d + 1) m_La_law 1006 [some (.ref x0), some (.ref x1), some (.ref x2), some (.ref x3), some (.ref x4), some (.int x5), some (.int v145), some (.int v151), y8] [] h156 (QI K) else K (0 : Int32) h156))) else Wp (d + 1) m_La_law 1006 [some (.ref x0), some (.ref x1), some (.ref x2), some (.ref x3), some (.ref x4), some (.int x5), some (.int v145), some (.int v151), y8] [] h156 (QI K)) else K (0 : Int32) h156)))))))))))) else (if ((hI h0 x0 x5.toNatClampNeg) &&& (15 : Int32)).toInt = 7 then Ca d m_La_read [.ref x1, .ref x3] h0 (QI (fun v160 h161 => ((hS h161 x2).1 = 8 ∧ Ca d m_Mo_read [.ref x2] h161 (QI (fun v164 h165 => ((hS h165 x2).1 = 8 ∧ Ca d m_Mo_thrown [.ref x2] h165 (QI (fun v168 h169 => (if v168 = v160 then (if v160 = 0 then ((hS h169 x3).1 = 21 ∧ (ainr (0 : Int32) (hS h169 x3).2 = true ∧ (if (hL h169 x3 (0 : Int32).toNatClampNeg) = (v164.toInt64) then Wp (d + 1) m_La_law 1006 [some (.ref x0), some (.ref x1), some (.ref x2), some (.ref x3), some (.ref x4), some (.int x5), some (.int v160), some (.int v164), y8] [] h169 (QI K) else K (0 : Int32) h169))) else Wp (d + 1) m_La_law 1006 [some (.ref x0), some (.ref x1), some (.ref x2), some (.ref x3), some (.ref x4), some (.int x5), some (.int v160), some (.int v164), y8] [] h169 (QI K)) else K (0 : Int32) h169))))))))) else (if ((hI h0 x0 x5.toNatClampNeg) &&& (15 : Int32)).toInt = 8 then Ca d m_La_write [.ref x1, .ref x3] h0 (QI (fun v173 h174 => ((hS h174 x2).1 = 8 ∧ Ca d m_Mo_write [.ref x2] h174 (QI (fun v177 h178 => ((hS h178 x2).1 = 8 ∧ Ca d m_Mo_thrown [.ref x2] h178 (QI (fun v181 h182 => (if v181 = v173 then (if v173 = 0 then ((hS h182 x3).1 = 21 ∧ (ainr (0 : Int32) (hS h182 x3).2 = true ∧ (if (hL h182 x3 (0 : Int32).toNatClampNeg) = (v177.toInt64) then Wp (d + 1) m_La_law 1006 [some (.ref x0), some (.ref x1), some (.ref x2), some (.ref x3), some (.ref x4), some (.int x5), some (.int v173), some (.int v177), y8] [] h182 (QI K) else K (0 : Int32) h182))) else Wp (d + 1) m_La_law 1006 [some (.ref x0), some (.ref x1), some (.ref x2), some (.ref x3), some (.ref x4), some (.int x5), some (.int v173), some (.int v177), y8] [] h182 (QI K)) else K (0 : Int32) h182))))))))) else (if ((hI h0 x0 x5.toNatClampNeg) &&& (15 : Int32)).toInt = 9 then (ainr (x5 + (1 : Int32)) (hS h0 x0).2 = true ∧ Ca d m_La_value [.ref x1, .int (hI h0 x0 (x5 + (1 : Int32)).toNatClampNeg), .ref x3] h0 (QI (fun v187 h188 => ((hS h188 x0).1 = 20 ∧ (ainr (x5 + (1 : Int32)) (hS h188 x0).2 = true ∧ ((hS h188 x2).1 = 8 ∧ Ca d m_Mo_value [.ref x2, .int (hI h188 x0 (x5 + (1 : Int32)).toNatClampNeg)] h188 (QL (fun v193 h194 => ((hS h194 x2).1 = 8 ∧ Ca d m_Mo_thrown [.ref x2] h194 (QI (fun v197 h198 => (if v197 = v187 then (if v187 = 0 then ((hS h198 x3).1 = 21 ∧ (ainr (0 : Int32) (hS h198 x3).2 = true ∧ (if (hL h198 x3 (0 : Int32).toNatClampNeg) = v193 then Wp (d + 1) m_La_law 1006 [some (.ref x0), some (.ref x1), some (.ref x2), some (.ref x3), some (.ref x4), some (.int x5), some (.int v187), some (.long v193), none] [] h198 (QI K) else K (0 : Int32) h198))) else Wp (d + 1) m_La_law 1006 [some (.ref x0), some (.ref x1), some (.ref x2), some (.ref x3), some (.ref x4), some (.int x5), some (.int v187), some (.long v193), none] [] h198 (QI K)) else K (0 : Int32) h198)))))))))))) else (if ((hI h0 x0 x5.toNatClampNeg) &&& (15 : Int32)).toInt = 10 then (ainr (x5 + (1 : Int32)) (hS h0 x0).2 = true ∧ Ca d m_La_real [.ref x1, .int (hI h0 x0 (x5 + (1 : Int32)).toNatClampNeg), .ref x4] h0 (QI (fun v203 h204 => ((hS h204 x0).1 = 20 ∧ (ainr (x5 + (1 : Int32)) (hS h204 x0).2 = true ∧ ((hS h204 x2).1 = 8 ∧ Ca d m_Mo_real [.ref x2, .int (hI h204 x0 (x5 + (1 : Int32)).toNatClampNeg)] h204 (QD (fun v209 h210 => ((hS h210 x2).1 = 8 ∧ Ca d m_Mo_thrown [.ref x2] h210 (QI (fun v213 h214 => (if v213 = v203 then (if v203 = 0 then ((hS h214 x4).1 = 23 ∧ (ainr (0 : Int32) (hS h214 x4).2 = true ∧ (if (Op.cmpValue (FP.dcmp (hD h214 x4 (0 : Int32).toNatClampNeg) v209) .l) = 0 then Wp (d + 1) m_La_law 1006 [some (.ref x0), some (.ref x1), some (.ref x2), some (.ref x3), some (.ref x4), some (.int x5), some (.int v203), some (.double v209), none] [] h214 (QI K) else (if (Op.cmpValue (FP.dcmp (hD h214 x4 (0 : Int32).toNatClampNeg) (hD h214 x4 (0 : Int32).toNatClampNeg)) .l) = 0 then K (0 : Int32) h214 else (if (Op.cmpValue (FP.dcmp v209 v209) .l) = 0 then K (0 : Int32) h214 else Wp (d + 1) m_La_law 1006 [some (.ref x0), some (.ref x1), some (.ref x2), some (.ref x3), some (.ref x4), some (.int x5), some (.int v203), some (.double v209), none] [] h214 (QI K)))))) else Wp (d + 1) m_La_law 1006 [some (.ref x0), some (.ref x1), some (.ref x2), some (.ref x3), some (.ref x4), some (.int x5), some (.int v203), some (.double v209), none] [] h214 (QI K)) else K (0 : Int32) h214)))))))))))) else (if ((hI h0 x0 x5.toNatClampNeg) &&& (15 : Int32)).toInt = 11 then (ainr (x5 + (1 : Int32)) (hS h0 x0).2 = true ∧ (ainr (x5 + (2 : Int32)) (hS h0 x0).2 = true ∧ (ainr (x5 + (3 : Int32)) (hS h0 x0).2 = true ∧ Ca d m_La_set [.ref x1, .int (hI h0 x0 (x5 + (1 : Int32)).toNatClampNeg), .long ((((hI h0 x0 (x5 + (2 : Int32)).toNatClampNeg).toInt64) <<< ((32 : Int32).toInt64 &&& 63)) ||| (((hI h0 x0 (x5 + (3 : Int32)).toNatClampNeg).toInt64) &&& (4294967295 : Int64))), .ref x3] h0 (QI (fun v221 h222 => ((hS h222 x0).1 = 20 ∧ (ainr (x5 + (1 : Int32)) (hS h222 x0).2 = true ∧ (ainr (x5 + (2 : Int32)) (hS h222 x0).2 = true ∧ (ainr (x5 + (3 : Int32)) (hS h222 x0).2 = true ∧ ((hS h222 x2).1 = 8 ∧ Ca d m_Mo_set [.ref x2, .int (hI h222 x0 (x5 + (1 : Int32)).toNatClampNeg), .long ((((hI h222 x0 (x5 + (2 : Int32)).toNatClampNeg).toInt64) <<< ((32 : Int32).toInt64 &&& 63)) ||| (((hI h222 x0 (x5 + (3 : Int32)).toNatClampNeg).toInt64) &&& (4294967295 : Int64)))] h222 (QI (fun v229 h230 => ((hS h230 x2).1 = 8 ∧ Ca d m_Mo_thrown [.ref x2] h230 (QI (fun v233 h234 => (if v233 = v221 then (if v221 = 0 then ((hS h234 x3).1 = 21 ∧ (ainr (0 : Int32) (hS h234 x3).2 = true ∧ (if (hL h234 x3 (0 : Int32).toNatClampNeg) = (v229.toInt64) then Wp (d + 1) m_La_law 1006 [some (.ref x0), some (.ref x1), some (.ref x2), some (.ref x3), some (.ref x4), some (.int x5), some (.int v221), some (.int v229), y8] [] h234 (QI K) else K (0 : Int32) h234))) else Wp (d + 1) m_La_law 1006 [some (.ref x0), some (.ref x1), some (.ref x2), some (.ref x3), some (.ref x4), some (.int x5), some (.int v221), some (.int v229), y8] [] h234 (QI K)) else K (0 : Int32) h234)))))))))))))))) else (if ((hI h0 x0 x5.toNatClampNeg) &&& (15 : Int32)).toInt = 12 then (ainr (x5 + (1 : Int32)) (hS h0 x0).2 = true ∧ (ainr (x5 + (2 : Int32)) (hS h0 x0).2 = true ∧ Ca d m_La_drop [.ref x1, .int (hI h0 x0 (x5 + (1 : Int32)).toNatClampNeg), .int (hI h0 x0 (x5 + (2 : Int32)).toNatClampNeg), .ref x3] h0 (QI (fun v240 h241 => ((hS h241 x0).1 = 20 ∧ (ainr (x5 + (1 : Int32)) (hS h241 x0).2 = true ∧ (ainr (x5 + (2 : Int32)) (hS h241 x0).2 = true ∧ ((hS h241 x2).1 = 8 ∧ Ca d m_Mo_drop [.ref x2, .int (hI h241 x0 (x5 + (1 : Int32)).toNatClampNeg), .int (hI h241 x0 (x5 + (2 : Int32)).toNatClampNeg)] h241 (QI (fun v247 h248 => ((hS h248 x2).1 = 8 ∧ Ca d m_Mo_thrown [.ref x2] h248 (QI (fun v251 h252 => (if v251 = v240 then (if v240 = 0 then ((hS h252 x3).1 = 21 ∧ (ainr (0 : Int32) (hS h252 x3).2 = true ∧ (if (hL h252 x3 (0 : Int32).toNatClampNeg) = (v247.toInt64) then Wp (d + 1) m_La_law 1006 [some (.ref x0), some (.ref x1), some (.ref x2), some (.ref x3), some (.ref x4), some (.int x5), some (.int v240), some (.int v247), y8] [] h252 (QI K) else K (0 : Int32) h252))) else Wp (d + 1) m_La_law 1006 [some (.ref x0), some (.ref x1), some (.ref x2), some (.ref x3), some (.ref x4), some (.int x5), some (.int v240), some (.int v247), y8] [] h252 (QI K)) else K (0 : Int32) h252)))))))))))))) else (if ((hI h0 x0 x5.toNatClampNeg) &&& (15 : Int32)).toInt = 13 then (ainr (x5 + (1 : Int32)) (hS h0 x0).2 = true ∧ Ca d m_La_byteAt [.ref x1, .int (hI h0 x0 (x5 + (1 : Int32)).toNatClampNeg), .ref x3] h0 (QI (fun v257 h258 => ((hS h258 x0).1 = 20 ∧ (ainr (x5 + (1 : Int32)) (hS h258 x0).2 = true ∧ ((hS h258 x2).1 = 8 ∧ Ca d m_Mo_byteAt [.ref x2, .int (hI h258 x0 (x5 + (1 : Int32)).toNatClampNeg)] h258 (QI (fun v263 h264 => ((hS h264 x2).1 = 8 ∧ Ca d m_Mo_thrown [.ref x2] h264 (QI (fun v267 h268 => (if v267 = v257 then (if v257 = 0 then ((hS h268 x3).1 = 21 ∧ (ainr (0 : Int32) (hS h268 x3).2 = true ∧ (if (hL h268 x3 (0 : Int32).toNatClampNeg) = (v263.toInt64) then Wp (d + 1) m_La_law 1006 [some (.ref x0), some (.ref x1), some (.ref x2), some (.ref x3), some (.ref x4), some (.int x5), some (.int v257), some (.int v263), y8] [] h268 (QI K) else K (0 : Int32) h268))) else Wp (d + 1) m_La_law 1006 [some (.ref x0), some (.ref x1), some (.ref x2), some (.ref x3), some (.ref x4), some (.int x5), some (.int v257), some (.int v263), y8] [] h268 (QI K)) else K (0 : Int32) h268)))))))))))) else (if ((hI h0 x0 x5.toNatClampNeg) &&& (15 : Int32)).toInt = 14 then (ainr (x5 + (1 : Int32)) (hS h0 x0).2 = true ∧ Ca d m_La_count [.ref x1, .int (hI h0 x0 (x5 + (1 : Int32)).toNatClampNeg), .ref x3] h0 (QI (fun v273 h274 => ((hS h274 x0).1 = 20 ∧ (ainr (x5 + (1 : Int32)) (hS h274 x0).2 = true ∧ ((hS h274 x2).1 = 8 ∧ Ca d m_Mo_count [.ref x2, .int (hI h274 x0 (x5 + (1 : Int32)).toNatClampNeg)] h274 (QI (fun v279 h280 => ((hS h280 x2).1 = 8 ∧ Ca d m_Mo_thrown [.ref x2] h280 (QI (fun v283 h284 => (if v283 = v273 then (if v273 = 0 then ((hS h284 x3).1 = 21 ∧ (ainr (0 : Int32) (hS h284 x3).2 = true ∧ (if (hL h284 x3 (0 : Int32).toNatClampNeg) = (v279.toInt64) then Wp (d + 1) m_La_law 1006 [some (.ref x0), some (.ref x1), some (.ref x2), some (.ref x3), some (.ref x4), some (.int x5), some (.int v273), some (.int v279), y8] [] h284 (QI K) else K (0 : Int32) h284))) else Wp (d + 1) m_La_law 1006 [some (.ref x0), some (.ref x1), some (.ref x2), some (.ref x3), some (.ref x4), some (.int x5), some (.int v273), some (.int v279), y8] [] h284 (QI K)) else K (0 : Int32) h284)))))))))))) else Wp (d + 1) m_La_law 1006 [some (.ref x0), some (.ref x1), some (.ref x2), some (.ref x3), some (.ref x4), some (.int x5), y6, y7, y8] [] h0 (QI K))))))))))))))))))))) : Wp (d + 1) m_La_law 28 [some (.ref x0), some (.ref x1), some (.ref x2), some (.ref x3), some (.ref x4), some (.int x5), y6, y7, y8] [] h0 (QI K) := by
  refine V.iload d_La_law_28 rfl ?_
  refine V.aload_n d_La_law_30 rfl ?_
  obtain ⟨g23, hq⟩ := hq
  refine V.alen d_La_law_31 g23 ?_
  refine V.iconst (x := 4) d_La_law_32 (by decide) ?_
  refine V.isub d_La_law_33 ?_
  refine V.ic_gt (t := 1012) d_La_law_34 ⟨rfl, rfl⟩ (fun hc => ?_) (fun hc => ?_)
  · replace hq := ifp hc hq
    refine V.iconst (x := 1) d_La_law_1012 (by decide) ?_
    refine V.zret (y := (1 : Int32)) d_La_law_1013 rfl (by decide) ?_
    exact V.rI hq
  · replace hq := ifn hc hq
    refine V.aload_n d_La_law_37 rfl ?_
    refine V.iload d_La_law_38 rfl ?_
    obtain ⟨g24, hq⟩ := hq
    obtain ⟨g25, hq⟩ := hq
    refine V.iaload d_La_law_40 g24 g25 ?_
    refine V.bipush (x := 15) d_La_law_41 (by decide) ?_
    refine V.iand d_La_law_43 ?_
    refine V.table d_La_law_44 ⟨rfl, rfl, rfl⟩ ?_
    refine swW_c (fun hc => ?_) (fun hc => ?_)
    · replace hq := ifp hc hq
      refine V.tg (t := 120) rfl ?_
      refine V.aload_n d_La_law_120 rfl ?_
      refine V.aload_n d_La_law_121 rfl ?_
      refine V.iload d_La_law_122 rfl ?_
      refine V.iconst (x := 1) d_La_law_124 (by decide) ?_
      refine V.iadd d_La_law_125 ?_
      obtain ⟨g26, hq⟩ := hq
      refine V.iaload d_La_law_126 g24 g26 ?_
      refine V.i2l d_La_law_127 ?_
      refine V.bipush (x := 32) d_La_law_128 (by decide) ?_
      refine V.lshl d_La_law_130 ?_
      refine V.aload_n d_La_law_131 rfl ?_
      refine V.iload d_La_law_132 rfl ?_
      refine V.iconst (x := 2) d_La_law_134 (by decide) ?_
      refine V.iadd d_La_law_135 ?_
      obtain ⟨g27, hq⟩ := hq
      refine V.iaload d_La_law_136 g24 g27 ?_
      refine V.i2l d_La_law_137 ?_
      refine V.ldc2_w d_La_law_138 rfl ?_
      refine V.land d_La_law_141 ?_
      refine V.lor d_La_law_142 ?_
      refine V.aload_n d_La_law_143 rfl ?_
      refine V.callI d_La_law_144 (cS_call (as := [_, _, _]) (rs := []) rfl rfl ⟨leb rfl, leb rfl⟩) hq (fun v28 h29 hq => ?_)
      refine V.istore (l' := [_, _, _, _, _, _, _, _, _]) d_La_law_147 rfl (ltb rfl) ?_
      refine V.aload_n d_La_law_149 rfl ?_
      refine V.aload_n d_La_law_150 rfl ?_
      refine V.iload d_La_law_151 rfl ?_
      refine V.iconst (x := 1) d_La_law_153 (by decide) ?_
      refine V.iadd d_La_law_154 ?_
      obtain ⟨g31, hq⟩ := hq
      obtain ⟨g32, hq⟩ := hq
      refine V.iaload d_La_law_155 g31 g32 ?_
      refine V.i2l d_La_law_156 ?_
      refine V.bipush (x := 32) d_La_law_157 (by decide) ?_
      refine V.lshl d_La_law_159 ?_
      refine V.aload_n d_La_law_160 rfl ?_
      refine V.iload d_La_law_161 rfl ?_
      refine V.iconst (x := 2) d_La_law_163 (by decide) ?_
      refine V.iadd d_La_law_164 ?_
      obtain ⟨g33, hq⟩ := hq
      refine V.iaload d_La_law_165 g31 g33 ?_
      refine V.i2l d_La_law_166 ?_
      refine V.ldc2_w d_La_law_167 rfl ?_
      refine V.land d_La_law_170 ?_
      refine V.lor d_La_law_171 ?_
      obtain ⟨g34, hq⟩ := hq
      refine V.callI d_La_law_172 (cV_call (t := [_]) (rs := []) rfl (Or.inl rfl) rfl (lk1 g34) ⟨leb rfl, leb rfl⟩) hq (fun v35 h36 hq => ?_)
      refine V.istore (l' := [_, _, _, _, _, _, _, _, _]) d_La_law_175 rfl (ltb rfl) ?_
      refine V.aload_n d_La_law_177 rfl ?_
      obtain ⟨g38, hq⟩ := hq
      refine V.callI d_La_law_178 (cV_call (t := []) (rs := []) rfl (Or.inl rfl) rfl (lk1 g38) ⟨leb rfl, leb rfl⟩) hq (fun v39 h40 hq => ?_)
      refine V.iload d_La_law_181 rfl ?_
      refine V.ic_eq (t := 188) d_La_law_183 ⟨rfl, rfl⟩ (fun hc => ?_) (fun hc => ?_)
      · replace hq := ifp hc hq
        refine V.iload d_La_law_188 rfl ?_
        refine V.if_ne (t := 205) d_La_law_190 ⟨rfl, rfl⟩ (fun hc => ?_) (fun hc => ?_)
        · replace hq := ifp hc hq
          refine V.aload_n d_La_law_193 rfl ?_
          refine V.iconst (x := 0) d_La_law_194 (by decide) ?_
          obtain ⟨g42, hq⟩ := hq
          obtain ⟨g43, hq⟩ := hq
          refine V.laload d_La_law_195 g42 g43 ?_
          refine V.iload d_La_law_196 rfl ?_
          refine V.i2l d_La_law_198 ?_
          refine V.lc_eq d_La_law_199 d_La_law_200 ⟨rfl, rfl⟩ (fun hc => ?_) (fun hc => ?_)
          · replace hq := ifp hc hq
            refine V.goto (t := 1006) d_La_law_205 ⟨rfl, rfl⟩ ?_
            exact hq
          · replace hq := ifn hc hq
            refine V.iconst (x := 0) d_La_law_203 (by decide) ?_
            refine V.zret (y := (0 : Int32)) d_La_law_204 rfl (by decide) ?_
            exact V.rI hq
        · replace hq := ifn hc hq
          refine V.goto (t := 1006) d_La_law_205 ⟨rfl, rfl⟩ ?_
          exact hq
      · replace hq := ifn hc hq
        refine V.iconst (x := 0) d_La_law_186 (by decide) ?_
        refine V.zret (y := (0 : Int32)) d_La_law_187 rfl (by decide) ?_
        exact V.rI hq
    · replace hq := ifn hc hq
      refine swW_c (fun hc => ?_) (fun hc => ?_)
      · replace hq := ifp hc hq
        refine V.tg (t := 208) rfl ?_
        refine V.aload_n d_La_law_208 rfl ?_
        obtain ⟨g44, hq⟩ := hq
        refine V.callI d_La_law_209 (cV_call (t := []) (rs := []) rfl (Or.inl rfl) rfl (lk1 g44) ⟨leb rfl, leb rfl⟩) hq (fun v45 h46 hq => ?_)
        refine V.aload_n d_La_law_212 rfl ?_
        obtain ⟨g48, hq⟩ := hq
        refine V.callI d_La_law_213 (cV_call (t := []) (rs := [_]) rfl (Or.inl rfl) rfl (lk1 g48) ⟨leb rfl, leb rfl⟩) hq (fun v49 h50 hq => ?_)
        refine V.ic_eq (t := 1006) d_La_law_216 ⟨rfl, rfl⟩ (fun hc => ?_) (fun hc => ?_)
        · replace hq := ifp hc hq
          exact hq
        · replace hq := ifn hc hq
          refine V.iconst (x := 0) d_La_law_219 (by decide) ?_
          refine V.zret (y := (0 : Int32)) d_La_law_220 rfl (by decide) ?_
          exact V.rI hq
      · replace hq := ifn hc hq
        refine swW_c (fun hc => ?_) (fun hc => ?_)
        · replace hq := ifp hc hq
          refine V.tg (t := 221) rfl ?_
          refine V.aload_n d_La_law_221 rfl ?_
          obtain ⟨g52, hq⟩ := hq
          refine V.callI d_La_law_222 (cV_call (t := []) (rs := []) rfl (Or.inl rfl) rfl (lk1 g52) ⟨leb rfl, leb rfl⟩) hq (fun v53 h54 hq => ?_)
          refine V.aload_n d_La_law_225 rfl ?_
          obtain ⟨g56, hq⟩ := hq
          refine V.callI d_La_law_226 (cV_call (t := []) (rs := [_]) rfl (Or.inl rfl) rfl (lk1 g56) ⟨leb rfl, leb rfl⟩) hq (fun v57 h58 hq => ?_)
          refine V.ic_eq (t := 1006) d_La_law_229 ⟨rfl, rfl⟩ (fun hc => ?_) (fun hc => ?_)
          · replace hq := ifp hc hq
            exact hq
          · replace hq := ifn hc hq
            refine V.iconst (x := 0) d_La_law_232 (by decide) ?_
            refine V.zret (y := (0 : Int32)) d_La_law_233 rfl (by decide) ?_
            exact V.rI hq
        · replace hq := ifn hc hq
          refine swW_c (fun hc => ?_) (fun hc => ?_)
          · replace hq := ifp hc hq
            refine V.tg (t := 234) rfl ?_
            refine V.aload_n d_La_law_234 rfl ?_
            refine V.aload_n d_La_law_235 rfl ?_
            refine V.callI d_La_law_236 (cS_call (as := [_, _]) (rs := []) rfl rfl ⟨leb rfl, leb rfl⟩) hq (fun v60 h61 hq => ?_)
            refine V.istore (l' := [_, _, _, _, _, _, _, _, _]) d_La_law_239 rfl (ltb rfl) ?_
            refine V.aload_n d_La_law_241 rfl ?_
            obtain ⟨g63, hq⟩ := hq
            refine V.callI d_La_law_242 (cV_call (t := []) (rs := []) rfl (Or.inl rfl) rfl (lk1 g63) ⟨leb rfl, leb rfl⟩) hq (fun v64 h65 hq => ?_)
            refine V.istore (l' := [_, _, _, _, _, _, _, _, _]) d_La_law_245 rfl (ltb rfl) ?_
            refine V.aload_n d_La_law_247 rfl ?_
            obtain ⟨g67, hq⟩ := hq
            refine V.callI d_La_law_248 (cV_call (t := []) (rs := []) rfl (Or.inl rfl) rfl (lk1 g67) ⟨leb rfl, leb rfl⟩) hq (fun v68 h69 hq => ?_)
            refine V.iload d_La_law_251 rfl ?_
            refine V.ic_eq (t := 258) d_La_law_253 ⟨rfl, rfl⟩ (fun hc => ?_) (fun hc => ?_)
            · replace hq := ifp hc hq
              refine V.iload d_La_law_258 rfl ?_
              refine V.if_ne (t := 275) d_La_law_260 ⟨rfl, rfl⟩ (fun hc => ?_) (fun hc => ?_)
              · replace hq := ifp hc hq
                refine V.aload_n d_La_law_263 rfl ?_
                refine V.iconst (x := 0) d_La_law_264 (by decide) ?_
                obtain ⟨g71, hq⟩ := hq
                obtain ⟨g72, hq⟩ := hq
                refine V.laload d_La_law_265 g71 g72 ?_
                refine V.iload d_La_law_266 rfl ?_
                refine V.i2l d_La_law_268 ?_
                refine V.lc_eq d_La_law_269 d_La_law_270 ⟨rfl, rfl⟩ (fun hc => ?_) (fun hc => ?_)
                · replace hq := ifp hc hq
                  refine V.goto (t := 1006) d_La_law_275 ⟨rfl, rfl⟩ ?_
                  exact hq
                · replace hq := ifn hc hq
                  refine V.iconst (x := 0) d_La_law_273 (by decide) ?_
                  refine V.zret (y := (0 : Int32)) d_La_law_274 rfl (by decide) ?_
                  exact V.rI hq
              · replace hq := ifn hc hq
                refine V.goto (t := 1006) d_La_law_275 ⟨rfl, rfl⟩ ?_
                exact hq
            · replace hq := ifn hc hq
              refine V.iconst (x := 0) d_La_law_256 (by decide) ?_
              refine V.zret (y := (0 : Int32)) d_La_law_257 rfl (by decide) ?_
              exact V.rI hq
          · replace hq := ifn hc hq
            refine swW_c (fun hc => ?_) (fun hc => ?_)
            · replace hq := ifp hc hq
              refine V.tg (t := 278) rfl ?_
              refine V.aload_n d_La_law_278 rfl ?_
              refine V.aload_n d_La_law_279 rfl ?_
              refine V.iload d_La_law_280 rfl ?_
              refine V.iconst (x := 1) d_La_law_282 (by decide) ?_
              refine V.iadd d_La_law_283 ?_
              obtain ⟨g73, hq⟩ := hq
              refine V.iaload d_La_law_284 g24 g73 ?_
              refine V.if_eq (t := 292) d_La_law_285 ⟨rfl, rfl⟩ (fun hc => ?_) (fun hc => ?_)
              · replace hq := ifp hc hq
                refine V.iconst (x := 0) d_La_law_292 (by decide) ?_
                refine V.aload_n d_La_law_293 rfl ?_
                refine V.callI d_La_law_294 (cS_call (as := [_, _, _]) (rs := []) rfl rfl ⟨leb rfl, leb rfl⟩) hq (fun v74 h75 hq => ?_)
                refine V.istore (l' := [_, _, _, _, _, _, _, _, _]) d_La_law_297 rfl (ltb rfl) ?_
                refine V.aload_n d_La_law_299 rfl ?_
                refine V.aload_n d_La_law_300 rfl ?_
                refine V.iload d_La_law_301 rfl ?_
                refine V.iconst (x := 1) d_La_law_303 (by decide) ?_
                refine V.iadd d_La_law_304 ?_
                obtain ⟨g77, hq⟩ := hq
                obtain ⟨g78, hq⟩ := hq
                refine V.iaload d_La_law_305 g77 g78 ?_
                refine V.if_eq (t := 313) d_La_law_306 ⟨rfl, rfl⟩ (fun hc => ?_) (fun hc => ?_)
                · replace hq := ifp hc hq
                  refine V.iconst (x := 0) d_La_law_313 (by decide) ?_
                  obtain ⟨g79, hq⟩ := hq
                  refine V.callI d_La_law_314 (cV_call (t := [_]) (rs := []) rfl (Or.inl rfl) rfl (lk1 g79) ⟨leb rfl, leb rfl⟩) hq (fun v80 h81 hq => ?_)
                  refine V.istore (l' := [_, _, _, _, _, _, _, _, _]) d_La_law_317 rfl (ltb rfl) ?_
                  refine V.aload_n d_La_law_319 rfl ?_
                  obtain ⟨g83, hq⟩ := hq
                  refine V.callI d_La_law_320 (cV_call (t := []) (rs := []) rfl (Or.inl rfl) rfl (lk1 g83) ⟨leb rfl, leb rfl⟩) hq (fun v84 h85 hq => ?_)
                  refine V.iload d_La_law_323 rfl ?_
                  refine V.ic_eq (t := 330) d_La_law_325 ⟨rfl, rfl⟩ (fun hc => ?_) (fun hc => ?_)
                  · replace hq := ifp hc hq
                    refine V.iload d_La_law_330 rfl ?_
                    refine V.if_ne (t := 347) d_La_law_332 ⟨rfl, rfl⟩ (fun hc => ?_) (fun hc => ?_)
                    · replace hq := ifp hc hq
                      refine V.aload_n d_La_law_335 rfl ?_
                      refine V.iconst (x := 0) d_La_law_336 (by decide) ?_
                      obtain ⟨g87, hq⟩ := hq
                      obtain ⟨g88, hq⟩ := hq
                      refine V.laload d_La_law_337 g87 g88 ?_
                      refine V.iload d_La_law_338 rfl ?_
                      refine V.i2l d_La_law_340 ?_
                      refine V.lc_eq d_La_law_341 d_La_law_342 ⟨rfl, rfl⟩ (fun hc => ?_) (fun hc => ?_)
                      · replace hq := ifp hc hq
                        refine V.goto (t := 1006) d_La_law_347 ⟨rfl, rfl⟩ ?_
                        exact hq
                      · replace hq := ifn hc hq
                        refine V.iconst (x := 0) d_La_law_345 (by decide) ?_
                        refine V.zret (y := (0 : Int32)) d_La_law_346 rfl (by decide) ?_
                        exact V.rI hq
                    · replace hq := ifn hc hq
                      refine V.goto (t := 1006) d_La_law_347 ⟨rfl, rfl⟩ ?_
                      exact hq
                  · replace hq := ifn hc hq
                    refine V.iconst (x := 0) d_La_law_328 (by decide) ?_
                    refine V.zret (y := (0 : Int32)) d_La_law_329 rfl (by decide) ?_
                    exact V.rI hq
                · replace hq := ifn hc hq
                  refine V.iconst (x := 1) d_La_law_309 (by decide) ?_
                  refine V.goto (t := 314) d_La_law_310 ⟨rfl, rfl⟩ ?_
                  obtain ⟨g89, hq⟩ := hq
                  refine V.callI d_La_law_314 (cV_call (t := [_]) (rs := []) rfl (Or.inl rfl) rfl (lk1 g89) ⟨leb rfl, leb rfl⟩) hq (fun v90 h91 hq => ?_)
                  refine V.istore (l' := [_, _, _, _, _, _, _, _, _]) d_La_law_317 rfl (ltb rfl) ?_
                  refine V.aload_n d_La_law_319 rfl ?_
                  obtain ⟨g93, hq⟩ := hq
                  refine V.callI d_La_law_320 (cV_call (t := []) (rs := []) rfl (Or.inl rfl) rfl (lk1 g93) ⟨leb rfl, leb rfl⟩) hq (fun v94 h95 hq => ?_)
                  refine V.iload d_La_law_323 rfl ?_
                  refine V.ic_eq (t := 330) d_La_law_325 ⟨rfl, rfl⟩ (fun hc => ?_) (fun hc => ?_)
                  · replace hq := ifp hc hq
                    refine V.iload d_La_law_330 rfl ?_
                    refine V.if_ne (t := 347) d_La_law_332 ⟨rfl, rfl⟩ (fun hc => ?_) (fun hc => ?_)
                    · replace hq := ifp hc hq
                      refine V.aload_n d_La_law_335 rfl ?_
                      refine V.iconst (x := 0) d_La_law_336 (by decide) ?_
                      obtain ⟨g97, hq⟩ := hq
                      obtain ⟨g98, hq⟩ := hq
                      refine V.laload d_La_law_337 g97 g98 ?_
                      refine V.iload d_La_law_338 rfl ?_
                      refine V.i2l d_La_law_340 ?_
                      refine V.lc_eq d_La_law_341 d_La_law_342 ⟨rfl, rfl⟩ (fun hc => ?_) (fun hc => ?_)
                      · replace hq := ifp hc hq
                        refine V.goto (t := 1006) d_La_law_347 ⟨rfl, rfl⟩ ?_
                        exact hq
                      · replace hq := ifn hc hq
                        refine V.iconst (x := 0) d_La_law_345 (by decide) ?_
                        refine V.zret (y := (0 : Int32)) d_La_law_346 rfl (by decide) ?_
                        exact V.rI hq
                    · replace hq := ifn hc hq
                      refine V.goto (t := 1006) d_La_law_347 ⟨rfl, rfl⟩ ?_
                      exact hq
                  · replace hq := ifn hc hq
                    refine V.iconst (x := 0) d_La_law_328 (by decide) ?_
                    refine V.zret (y := (0 : Int32)) d_La_law_329 rfl (by decide) ?_
                    exact V.rI hq
              · replace hq := ifn hc hq
                refine V.iconst (x := 1) d_La_law_288 (by decide) ?_
                refine V.goto (t := 293) d_La_law_289 ⟨rfl, rfl⟩ ?_
                refine V.aload_n d_La_law_293 rfl ?_
                refine V.callI d_La_law_294 (cS_call (as := [_, _, _]) (rs := []) rfl rfl ⟨leb rfl, leb rfl⟩) hq (fun v99 h100 hq => ?_)
                refine V.istore (l' := [_, _, _, _, _, _, _, _, _]) d_La_law_297 rfl (ltb rfl) ?_
                refine V.aload_n d_La_law_299 rfl ?_
                refine V.aload_n d_La_law_300 rfl ?_
                refine V.iload d_La_law_301 rfl ?_
                refine V.iconst (x := 1) d_La_law_303 (by decide) ?_
                refine V.iadd d_La_law_304 ?_
                obtain ⟨g102, hq⟩ := hq
                obtain ⟨g103, hq⟩ := hq
                refine V.iaload d_La_law_305 g102 g103 ?_
                refine V.if_eq (t := 313) d_La_law_306 ⟨rfl, rfl⟩ (fun hc => ?_) (fun hc => ?_)
                · replace hq := ifp hc hq
                  refine V.iconst (x := 0) d_La_law_313 (by decide) ?_
                  obtain ⟨g104, hq⟩ := hq
                  refine V.callI d_La_law_314 (cV_call (t := [_]) (rs := []) rfl (Or.inl rfl) rfl (lk1 g104) ⟨leb rfl, leb rfl⟩) hq (fun v105 h106 hq => ?_)
                  refine V.istore (l' := [_, _, _, _, _, _, _, _, _]) d_La_law_317 rfl (ltb rfl) ?_
                  refine V.aload_n d_La_law_319 rfl ?_
                  obtain ⟨g108, hq⟩ := hq
                  refine V.callI d_La_law_320 (cV_call (t := []) (rs := []) rfl (Or.inl rfl) rfl (lk1 g108) ⟨leb rfl, leb rfl⟩) hq (fun v109 h110 hq => ?_)
                  refine V.iload d_La_law_323 rfl ?_
                  refine V.ic_eq (t := 330) d_La_law_325 ⟨rfl, rfl⟩ (fun hc => ?_) (fun hc => ?_)
                  · replace hq := ifp hc hq
                    refine V.iload d_La_law_330 rfl ?_
                    refine V.if_ne (t := 347) d_La_law_332 ⟨rfl, rfl⟩ (fun hc => ?_) (fun hc => ?_)
                    · replace hq := ifp hc hq
                      refine V.aload_n d_La_law_335 rfl ?_
                      refine V.iconst (x := 0) d_La_law_336 (by decide) ?_
                      obtain ⟨g112, hq⟩ := hq
                      obtain ⟨g113, hq⟩ := hq
                      refine V.laload d_La_law_337 g112 g113 ?_
                      refine V.iload d_La_law_338 rfl ?_
                      refine V.i2l d_La_law_340 ?_
                      refine V.lc_eq d_La_law_341 d_La_law_342 ⟨rfl, rfl⟩ (fun hc => ?_) (fun hc => ?_)
                      · replace hq := ifp hc hq
                        refine V.goto (t := 1006) d_La_law_347 ⟨rfl, rfl⟩ ?_
                        exact hq
                      · replace hq := ifn hc hq
                        refine V.iconst (x := 0) d_La_law_345 (by decide) ?_
                        refine V.zret (y := (0 : Int32)) d_La_law_346 rfl (by decide) ?_
                        exact V.rI hq
                    · replace hq := ifn hc hq
                      refine V.goto (t := 1006) d_La_law_347 ⟨rfl, rfl⟩ ?_
                      exact hq
                  · replace hq := ifn hc hq
                    refine V.iconst (x := 0) d_La_law_328 (by decide) ?_
                    refine V.zret (y := (0 : Int32)) d_La_law_329 rfl (by decide) ?_
                    exact V.rI hq
                · replace hq := ifn hc hq
                  refine V.iconst (x := 1) d_La_law_309 (by decide) ?_
                  refine V.goto (t := 314) d_La_law_310 ⟨rfl, rfl⟩ ?_
                  obtain ⟨g114, hq⟩ := hq
                  refine V.callI d_La_law_314 (cV_call (t := [_]) (rs := []) rfl (Or.inl rfl) rfl (lk1 g114) ⟨leb rfl, leb rfl⟩) hq (fun v115 h116 hq => ?_)
                  refine V.istore (l' := [_, _, _, _, _, _, _, _, _]) d_La_law_317 rfl (ltb rfl) ?_
                  refine V.aload_n d_La_law_319 rfl ?_
                  obtain ⟨g118, hq⟩ := hq
                  refine V.callI d_La_law_320 (cV_call (t := []) (rs := []) rfl (Or.inl rfl) rfl (lk1 g118) ⟨leb rfl, leb rfl⟩) hq (fun v119 h120 hq => ?_)
                  refine V.iload d_La_law_323 rfl ?_
                  refine V.ic_eq (t := 330) d_La_law_325 ⟨rfl, rfl⟩ (fun hc => ?_) (fun hc => ?_)
                  · replace hq := ifp hc hq
                    refine V.iload d_La_law_330 rfl ?_
                    refine V.if_ne (t := 347) d_La_law_332 ⟨rfl, rfl⟩ (fun hc => ?_) (fun hc => ?_)
                    · replace hq := ifp hc hq
                      refine V.aload_n d_La_law_335 rfl ?_
                      refine V.iconst (x := 0) d_La_law_336 (by decide) ?_
                      obtain ⟨g122, hq⟩ := hq
                      obtain ⟨g123, hq⟩ := hq
                      refine V.laload d_La_law_337 g122 g123 ?_
                      refine V.iload d_La_law_338 rfl ?_
                      refine V.i2l d_La_law_340 ?_
                      refine V.lc_eq d_La_law_341 d_La_law_342 ⟨rfl, rfl⟩ (fun hc => ?_) (fun hc => ?_)
                      · replace hq := ifp hc hq
                        refine V.goto (t := 1006) d_La_law_347 ⟨rfl, rfl⟩ ?_
                        exact hq
                      · replace hq := ifn hc hq
                        refine V.iconst (x := 0) d_La_law_345 (by decide) ?_
                        refine V.zret (y := (0 : Int32)) d_La_law_346 rfl (by decide) ?_
                        exact V.rI hq
                    · replace hq := ifn hc hq
                      refine V.goto (t := 1006) d_La_law_347 ⟨rfl, rfl⟩ ?_
                      exact hq
                  · replace hq := ifn hc hq
                    refine V.iconst (x := 0) d_La_law_328 (by decide) ?_
                    refine V.zret (y := (0 : Int32)) d_La_law_329 rfl (by decide) ?_
                    exact V.rI hq
            · replace hq := ifn hc hq
              refine swW_c (fun hc => ?_) (fun hc => ?_)
              · replace hq := ifp hc hq
                refine V.tg (t := 350) rfl ?_
                refine V.aload_n d_La_law_350 rfl ?_
                refine V.aload_n d_La_law_351 rfl ?_
                refine V.iload d_La_law_352 rfl ?_
                refine V.iconst (x := 1) d_La_law_354 (by decide) ?_
                refine V.iadd d_La_law_355 ?_
                obtain ⟨g124, hq⟩ := hq
                refine V.iaload d_La_law_356 g24 g124 ?_
                refine V.i2l d_La_law_357 ?_
                refine V.bipush (x := 32) d_La_law_358 (by decide) ?_
                refine V.lshl d_La_law_360 ?_
                refine V.aload_n d_La_law_361 rfl ?_
                refine V.iload d_La_law_362 rfl ?_
                refine V.iconst (x := 2) d_La_law_364 (by decide) ?_
                refine V.iadd d_La_law_365 ?_
                obtain ⟨g125, hq⟩ := hq
                refine V.iaload d_La_law_366 g24 g125 ?_
                refine V.i2l d_La_law_367 ?_
                refine V.ldc2_w d_La_law_368 rfl ?_
                refine V.land d_La_law_371 ?_
                refine V.lor d_La_law_372 ?_
                refine V.aload_n d_La_law_373 rfl ?_
                refine V.iload d_La_law_374 rfl ?_
                refine V.iconst (x := 3) d_La_law_376 (by decide) ?_
                refine V.iadd d_La_law_377 ?_
                obtain ⟨g126, hq⟩ := hq
                refine V.iaload d_La_law_378 g24 g126 ?_
                refine V.aload_n d_La_law_379 rfl ?_
                refine V.callI d_La_law_380 (cS_call (as := [_, _, _, _]) (rs := []) rfl rfl ⟨leb rfl, leb rfl⟩) hq (fun v127 h128 hq => ?_)
                refine V.istore (l' := [_, _, _, _, _, _, _, _, _]) d_La_law_383 rfl (ltb rfl) ?_
                refine V.aload_n d_La_law_385 rfl ?_
                refine V.aload_n d_La_law_386 rfl ?_
                refine V.iload d_La_law_387 rfl ?_
                refine V.iconst (x := 1) d_La_law_389 (by decide) ?_
                refine V.iadd d_La_law_390 ?_
                obtain ⟨g130, hq⟩ := hq
                obtain ⟨g131, hq⟩ := hq
                refine V.iaload d_La_law_391 g130 g131 ?_
                refine V.i2l d_La_law_392 ?_
                refine V.bipush (x := 32) d_La_law_393 (by decide) ?_
                refine V.lshl d_La_law_395 ?_
                refine V.aload_n d_La_law_396 rfl ?_
                refine V.iload d_La_law_397 rfl ?_
                refine V.iconst (x := 2) d_La_law_399 (by decide) ?_
                refine V.iadd d_La_law_400 ?_
                obtain ⟨g132, hq⟩ := hq
                refine V.iaload d_La_law_401 g130 g132 ?_
                refine V.i2l d_La_law_402 ?_
                refine V.ldc2_w d_La_law_403 rfl ?_
                refine V.land d_La_law_406 ?_
                refine V.lor d_La_law_407 ?_
                refine V.aload_n d_La_law_408 rfl ?_
                refine V.iload d_La_law_409 rfl ?_
                refine V.iconst (x := 3) d_La_law_411 (by decide) ?_
                refine V.iadd d_La_law_412 ?_
                obtain ⟨g133, hq⟩ := hq
                refine V.iaload d_La_law_413 g130 g133 ?_
                obtain ⟨g134, hq⟩ := hq
                refine V.callI d_La_law_414 (cV_call (t := [_, _]) (rs := []) rfl (Or.inl rfl) rfl (lk1 g134) ⟨leb rfl, leb rfl⟩) hq (fun v135 h136 hq => ?_)
                refine V.istore (l' := [_, _, _, _, _, _, _, _, _]) d_La_law_417 rfl (ltb rfl) ?_
                refine V.aload_n d_La_law_419 rfl ?_
                obtain ⟨g138, hq⟩ := hq
                refine V.callI d_La_law_420 (cV_call (t := []) (rs := []) rfl (Or.inl rfl) rfl (lk1 g138) ⟨leb rfl, leb rfl⟩) hq (fun v139 h140 hq => ?_)
                refine V.iload d_La_law_423 rfl ?_
                refine V.ic_eq (t := 430) d_La_law_425 ⟨rfl, rfl⟩ (fun hc => ?_) (fun hc => ?_)
                · replace hq := ifp hc hq
                  refine V.iload d_La_law_430 rfl ?_
                  refine V.if_ne (t := 447) d_La_law_432 ⟨rfl, rfl⟩ (fun hc => ?_) (fun hc => ?_)
                  · replace hq := ifp hc hq
                    refine V.aload_n d_La_law_435 rfl ?_
                    refine V.iconst (x := 0) d_La_law_436 (by decide) ?_
                    obtain ⟨g142, hq⟩ := hq
                    obtain ⟨g143, hq⟩ := hq
                    refine V.laload d_La_law_437 g142 g143 ?_
                    refine V.iload d_La_law_438 rfl ?_
                    refine V.i2l d_La_law_440 ?_
                    refine V.lc_eq d_La_law_441 d_La_law_442 ⟨rfl, rfl⟩ (fun hc => ?_) (fun hc => ?_)
                    · replace hq := ifp hc hq
                      refine V.goto (t := 1006) d_La_law_447 ⟨rfl, rfl⟩ ?_
                      exact hq
                    · replace hq := ifn hc hq
                      refine V.iconst (x := 0) d_La_law_445 (by decide) ?_
                      refine V.zret (y := (0 : Int32)) d_La_law_446 rfl (by decide) ?_
                      exact V.rI hq
                  · replace hq := ifn hc hq
                    refine V.goto (t := 1006) d_La_law_447 ⟨rfl, rfl⟩ ?_
                    exact hq
                · replace hq := ifn hc hq
                  refine V.iconst (x := 0) d_La_law_428 (by decide) ?_
                  refine V.zret (y := (0 : Int32)) d_La_law_429 rfl (by decide) ?_
                  exact V.rI hq
              · replace hq := ifn hc hq
                refine swW_c (fun hc => ?_) (fun hc => ?_)
                · replace hq := ifp hc hq
                  refine V.tg (t := 450) rfl ?_
                  refine V.aload_n d_La_law_450 rfl ?_
                  refine V.aload_n d_La_law_451 rfl ?_
                  refine V.iload d_La_law_452 rfl ?_
                  refine V.iconst (x := 1) d_La_law_454 (by decide) ?_
                  refine V.iadd d_La_law_455 ?_
                  obtain ⟨g144, hq⟩ := hq
                  refine V.iaload d_La_law_456 g24 g144 ?_
                  refine V.aload_n d_La_law_457 rfl ?_
                  refine V.callI d_La_law_458 (cS_call (as := [_, _, _]) (rs := []) rfl rfl ⟨leb rfl, leb rfl⟩) hq (fun v145 h146 hq => ?_)
                  refine V.istore (l' := [_, _, _, _, _, _, _, _, _]) d_La_law_461 rfl (ltb rfl) ?_
                  refine V.aload_n d_La_law_463 rfl ?_
                  refine V.aload_n d_La_law_464 rfl ?_
                  refine V.iload d_La_law_465 rfl ?_
                  refine V.iconst (x := 1) d_La_law_467 (by decide) ?_
                  refine V.iadd d_La_law_468 ?_
                  obtain ⟨g148, hq⟩ := hq
                  obtain ⟨g149, hq⟩ := hq
                  refine V.iaload d_La_law_469 g148 g149 ?_
                  obtain ⟨g150, hq⟩ := hq
                  refine V.callI d_La_law_470 (cV_call (t := [_]) (rs := []) rfl (Or.inl rfl) rfl (lk1 g150) ⟨leb rfl, leb rfl⟩) hq (fun v151 h152 hq => ?_)
                  refine V.istore (l' := [_, _, _, _, _, _, _, _, _]) d_La_law_473 rfl (ltb rfl) ?_
                  refine V.aload_n d_La_law_475 rfl ?_
                  obtain ⟨g154, hq⟩ := hq
                  refine V.callI d_La_law_476 (cV_call (t := []) (rs := []) rfl (Or.inl rfl) rfl (lk1 g154) ⟨leb rfl, leb rfl⟩) hq (fun v155 h156 hq => ?_)
                  refine V.iload d_La_law_479 rfl ?_
                  refine V.ic_eq (t := 486) d_La_law_481 ⟨rfl, rfl⟩ (fun hc => ?_) (fun hc => ?_)
                  · replace hq := ifp hc hq
                    refine V.iload d_La_law_486 rfl ?_
                    refine V.if_ne (t := 503) d_La_law_488 ⟨rfl, rfl⟩ (fun hc => ?_) (fun hc => ?_)
                    · replace hq := ifp hc hq
                      refine V.aload_n d_La_law_491 rfl ?_
                      refine V.iconst (x := 0) d_La_law_492 (by decide) ?_
                      obtain ⟨g158, hq⟩ := hq
                      obtain ⟨g159, hq⟩ := hq
                      refine V.laload d_La_law_493 g158 g159 ?_
                      refine V.iload d_La_law_494 rfl ?_
                      refine V.i2l d_La_law_496 ?_
                      refine V.lc_eq d_La_law_497 d_La_law_498 ⟨rfl, rfl⟩ (fun hc => ?_) (fun hc => ?_)
                      · replace hq := ifp hc hq
                        refine V.goto (t := 1006) d_La_law_503 ⟨rfl, rfl⟩ ?_
                        exact hq
                      · replace hq := ifn hc hq
                        refine V.iconst (x := 0) d_La_law_501 (by decide) ?_
                        refine V.zret (y := (0 : Int32)) d_La_law_502 rfl (by decide) ?_
                        exact V.rI hq
                    · replace hq := ifn hc hq
                      refine V.goto (t := 1006) d_La_law_503 ⟨rfl, rfl⟩ ?_
                      exact hq
                  · replace hq := ifn hc hq
                    refine V.iconst (x := 0) d_La_law_484 (by decide) ?_
                    refine V.zret (y := (0 : Int32)) d_La_law_485 rfl (by decide) ?_
                    exact V.rI hq
                · replace hq := ifn hc hq
                  refine swW_c (fun hc => ?_) (fun hc => ?_)
                  · replace hq := ifp hc hq
                    refine V.tg (t := 506) rfl ?_
                    refine V.aload_n d_La_law_506 rfl ?_
                    refine V.aload_n d_La_law_507 rfl ?_
                    refine V.callI d_La_law_508 (cS_call (as := [_, _]) (rs := []) rfl rfl ⟨leb rfl, leb rfl⟩) hq (fun v160 h161 hq => ?_)
                    refine V.istore (l' := [_, _, _, _, _, _, _, _, _]) d_La_law_511 rfl (ltb rfl) ?_
                    refine V.aload_n d_La_law_513 rfl ?_
                    obtain ⟨g163, hq⟩ := hq
                    refine V.callI d_La_law_514 (cV_call (t := []) (rs := []) rfl (Or.inl rfl) rfl (lk1 g163) ⟨leb rfl, leb rfl⟩) hq (fun v164 h165 hq => ?_)
                    refine V.istore (l' := [_, _, _, _, _, _, _, _, _]) d_La_law_517 rfl (ltb rfl) ?_
                    refine V.aload_n d_La_law_519 rfl ?_
                    obtain ⟨g167, hq⟩ := hq
                    refine V.callI d_La_law_520 (cV_call (t := []) (rs := []) rfl (Or.inl rfl) rfl (lk1 g167) ⟨leb rfl, leb rfl⟩) hq (fun v168 h169 hq => ?_)
                    refine V.iload d_La_law_523 rfl ?_
                    refine V.ic_eq (t := 530) d_La_law_525 ⟨rfl, rfl⟩ (fun hc => ?_) (fun hc => ?_)
                    · replace hq := ifp hc hq
                      refine V.iload d_La_law_530 rfl ?_
                      refine V.if_ne (t := 547) d_La_law_532 ⟨rfl, rfl⟩ (fun hc => ?_) (fun hc => ?_)
                      · replace hq := ifp hc hq
                        refine V.aload_n d_La_law_535 rfl ?_
                        refine V.iconst (x := 0) d_La_law_536 (by decide) ?_
                        obtain ⟨g171, hq⟩ := hq
                        obtain ⟨g172, hq⟩ := hq
                        refine V.laload d_La_law_537 g171 g172 ?_
                        refine V.iload d_La_law_538 rfl ?_
                        refine V.i2l d_La_law_540 ?_
                        refine V.lc_eq d_La_law_541 d_La_law_542 ⟨rfl, rfl⟩ (fun hc => ?_) (fun hc => ?_)
                        · replace hq := ifp hc hq
                          refine V.goto (t := 1006) d_La_law_547 ⟨rfl, rfl⟩ ?_
                          exact hq
                        · replace hq := ifn hc hq
                          refine V.iconst (x := 0) d_La_law_545 (by decide) ?_
                          refine V.zret (y := (0 : Int32)) d_La_law_546 rfl (by decide) ?_
                          exact V.rI hq
                      · replace hq := ifn hc hq
                        refine V.goto (t := 1006) d_La_law_547 ⟨rfl, rfl⟩ ?_
                        exact hq
                    · replace hq := ifn hc hq
                      refine V.iconst (x := 0) d_La_law_528 (by decide) ?_
                      refine V.zret (y := (0 : Int32)) d_La_law_529 rfl (by decide) ?_
                      exact V.rI hq
                  · replace hq := ifn hc hq
                    refine swW_c (fun hc => ?_) (fun hc => ?_)
                    · replace hq := ifp hc hq
                      refine V.tg (t := 550) rfl ?_
                      refine V.aload_n d_La_law_550 rfl ?_
                      refine V.aload_n d_La_law_551 rfl ?_
                      refine V.callI d_La_law_552 (cS_call (as := [_, _]) (rs := []) rfl rfl ⟨leb rfl, leb rfl⟩) hq (fun v173 h174 hq => ?_)
                      refine V.istore (l' := [_, _, _, _, _, _, _, _, _]) d_La_law_555 rfl (ltb rfl) ?_
                      refine V.aload_n d_La_law_557 rfl ?_
                      obtain ⟨g176, hq⟩ := hq
                      refine V.callI d_La_law_558 (cV_call (t := []) (rs := []) rfl (Or.inl rfl) rfl (lk1 g176) ⟨leb rfl, leb rfl⟩) hq (fun v177 h178 hq => ?_)
                      refine V.istore (l' := [_, _, _, _, _, _, _, _, _]) d_La_law_561 rfl (ltb rfl) ?_
                      refine V.aload_n d_La_law_563 rfl ?_
                      obtain ⟨g180, hq⟩ := hq
                      refine V.callI d_La_law_564 (cV_call (t := []) (rs := []) rfl (Or.inl rfl) rfl (lk1 g180) ⟨leb rfl, leb rfl⟩) hq (fun v181 h182 hq => ?_)
                      refine V.iload d_La_law_567 rfl ?_
                      refine V.ic_eq (t := 574) d_La_law_569 ⟨rfl, rfl⟩ (fun hc => ?_) (fun hc => ?_)
                      · replace hq := ifp hc hq
                        refine V.iload d_La_law_574 rfl ?_
                        refine V.if_ne (t := 591) d_La_law_576 ⟨rfl, rfl⟩ (fun hc => ?_) (fun hc => ?_)
                        · replace hq := ifp hc hq
                          refine V.aload_n d_La_law_579 rfl ?_
                          refine V.iconst (x := 0) d_La_law_580 (by decide) ?_
                          obtain ⟨g184, hq⟩ := hq
                          obtain ⟨g185, hq⟩ := hq
                          refine V.laload d_La_law_581 g184 g185 ?_
                          refine V.iload d_La_law_582 rfl ?_
                          refine V.i2l d_La_law_584 ?_
                          refine V.lc_eq d_La_law_585 d_La_law_586 ⟨rfl, rfl⟩ (fun hc => ?_) (fun hc => ?_)
                          · replace hq := ifp hc hq
                            refine V.goto (t := 1006) d_La_law_591 ⟨rfl, rfl⟩ ?_
                            exact hq
                          · replace hq := ifn hc hq
                            refine V.iconst (x := 0) d_La_law_589 (by decide) ?_
                            refine V.zret (y := (0 : Int32)) d_La_law_590 rfl (by decide) ?_
                            exact V.rI hq
                        · replace hq := ifn hc hq
                          refine V.goto (t := 1006) d_La_law_591 ⟨rfl, rfl⟩ ?_
                          exact hq
                      · replace hq := ifn hc hq
                        refine V.iconst (x := 0) d_La_law_572 (by decide) ?_
                        refine V.zret (y := (0 : Int32)) d_La_law_573 rfl (by decide) ?_
                        exact V.rI hq
                    · replace hq := ifn hc hq
                      refine swW_c (fun hc => ?_) (fun hc => ?_)
                      · replace hq := ifp hc hq
                        refine V.tg (t := 594) rfl ?_
                        refine V.aload_n d_La_law_594 rfl ?_
                        refine V.aload_n d_La_law_595 rfl ?_
                        refine V.iload d_La_law_596 rfl ?_
                        refine V.iconst (x := 1) d_La_law_598 (by decide) ?_
                        refine V.iadd d_La_law_599 ?_
                        obtain ⟨g186, hq⟩ := hq
                        refine V.iaload d_La_law_600 g24 g186 ?_
                        refine V.aload_n d_La_law_601 rfl ?_
                        refine V.callI d_La_law_602 (cS_call (as := [_, _, _]) (rs := []) rfl rfl ⟨leb rfl, leb rfl⟩) hq (fun v187 h188 hq => ?_)
                        refine V.istore (l' := [_, _, _, _, _, _, _, _, _]) d_La_law_605 rfl (ltb rfl) ?_
                        refine V.aload_n d_La_law_607 rfl ?_
                        refine V.aload_n d_La_law_608 rfl ?_
                        refine V.iload d_La_law_609 rfl ?_
                        refine V.iconst (x := 1) d_La_law_611 (by decide) ?_
                        refine V.iadd d_La_law_612 ?_
                        obtain ⟨g190, hq⟩ := hq
                        obtain ⟨g191, hq⟩ := hq
                        refine V.iaload d_La_law_613 g190 g191 ?_
                        obtain ⟨g192, hq⟩ := hq
                        refine V.callL d_La_law_614 (cV_call (t := [_]) (rs := []) rfl (Or.inl rfl) rfl (lk1 g192) ⟨leb rfl, leb rfl⟩) hq (fun v193 h194 hq => ?_)
                        refine V.lstore (l' := [_, _, _, _, _, _, _, _, _]) d_La_law_617 rfl (ltb rfl) ?_
                        refine V.aload_n d_La_law_619 rfl ?_
                        obtain ⟨g196, hq⟩ := hq
                        refine V.callI d_La_law_620 (cV_call (t := []) (rs := []) rfl (Or.inl rfl) rfl (lk1 g196) ⟨leb rfl, leb rfl⟩) hq (fun v197 h198 hq => ?_)
                        refine V.iload d_La_law_623 rfl ?_
                        refine V.ic_eq (t := 630) d_La_law_625 ⟨rfl, rfl⟩ (fun hc => ?_) (fun hc => ?_)
                        · replace hq := ifp hc hq
                          refine V.iload d_La_law_630 rfl ?_
                          refine V.if_ne (t := 646) d_La_law_632 ⟨rfl, rfl⟩ (fun hc => ?_) (fun hc => ?_)
                          · replace hq := ifp hc hq
                            refine V.aload_n d_La_law_635 rfl ?_
                            refine V.iconst (x := 0) d_La_law_636 (by decide) ?_
                            obtain ⟨g200, hq⟩ := hq
                            obtain ⟨g201, hq⟩ := hq
                            refine V.laload d_La_law_637 g200 g201 ?_
                            refine V.lload d_La_law_638 rfl ?_
                            refine V.lc_eq d_La_law_640 d_La_law_641 ⟨rfl, rfl⟩ (fun hc => ?_) (fun hc => ?_)
                            · replace hq := ifp hc hq
                              refine V.goto (t := 1006) d_La_law_646 ⟨rfl, rfl⟩ ?_
                              exact hq
                            · replace hq := ifn hc hq
                              refine V.iconst (x := 0) d_La_law_644 (by decide) ?_
                              refine V.zret (y := (0 : Int32)) d_La_law_645 rfl (by decide) ?_
                              exact V.rI hq
                          · replace hq := ifn hc hq
                            refine V.goto (t := 1006) d_La_law_646 ⟨rfl, rfl⟩ ?_
                            exact hq
                        · replace hq := ifn hc hq
                          refine V.iconst (x := 0) d_La_law_628 (by decide) ?_
                          refine V.zret (y := (0 : Int32)) d_La_law_629 rfl (by decide) ?_
                          exact V.rI hq
                      · replace hq := ifn hc hq
                        refine swW_c (fun hc => ?_) (fun hc => ?_)
                        · replace hq := ifp hc hq
                          refine V.tg (t := 649) rfl ?_
                          refine V.aload_n d_La_law_649 rfl ?_
                          refine V.aload_n d_La_law_650 rfl ?_
                          refine V.iload d_La_law_651 rfl ?_
                          refine V.iconst (x := 1) d_La_law_653 (by decide) ?_
                          refine V.iadd d_La_law_654 ?_
                          obtain ⟨g202, hq⟩ := hq
                          refine V.iaload d_La_law_655 g24 g202 ?_
                          refine V.aload d_La_law_656 rfl ?_
                          refine V.callI d_La_law_658 (cS_call (as := [_, _, _]) (rs := []) rfl rfl ⟨leb rfl, leb rfl⟩) hq (fun v203 h204 hq => ?_)
                          refine V.istore (l' := [_, _, _, _, _, _, _, _, _]) d_La_law_661 rfl (ltb rfl) ?_
                          refine V.aload_n d_La_law_663 rfl ?_
                          refine V.aload_n d_La_law_664 rfl ?_
                          refine V.iload d_La_law_665 rfl ?_
                          refine V.iconst (x := 1) d_La_law_667 (by decide) ?_
                          refine V.iadd d_La_law_668 ?_
                          obtain ⟨g206, hq⟩ := hq
                          obtain ⟨g207, hq⟩ := hq
                          refine V.iaload d_La_law_669 g206 g207 ?_
                          obtain ⟨g208, hq⟩ := hq
                          refine V.callD d_La_law_670 (cV_call (t := [_]) (rs := []) rfl (Or.inl rfl) rfl (lk1 g208) ⟨leb rfl, leb rfl⟩) hq (fun v209 h210 hq => ?_)
                          refine V.dstore (l' := [_, _, _, _, _, _, _, _, _]) d_La_law_673 rfl (ltb rfl) ?_
                          refine V.aload_n d_La_law_675 rfl ?_
                          obtain ⟨g212, hq⟩ := hq
                          refine V.callI d_La_law_676 (cV_call (t := []) (rs := []) rfl (Or.inl rfl) rfl (lk1 g212) ⟨leb rfl, leb rfl⟩) hq (fun v213 h214 hq => ?_)
                          refine V.iload d_La_law_679 rfl ?_
                          refine V.ic_eq (t := 686) d_La_law_681 ⟨rfl, rfl⟩ (fun hc => ?_) (fun hc => ?_)
                          · replace hq := ifp hc hq
                            refine V.iload d_La_law_686 rfl ?_
                            refine V.if_ne (t := 723) d_La_law_688 ⟨rfl, rfl⟩ (fun hc => ?_) (fun hc => ?_)
                            · replace hq := ifp hc hq
                              refine V.aload d_La_law_691 rfl ?_
                              refine V.iconst (x := 0) d_La_law_693 (by decide) ?_
                              obtain ⟨g216, hq⟩ := hq
                              obtain ⟨g217, hq⟩ := hq
                              refine V.daload d_La_law_694 g216 g217 ?_
                              refine V.dload d_La_law_695 rfl ?_
                              refine V.dcmp d_La_law_697 ?_
                              refine V.if_eq (t := 723) d_La_law_698 ⟨rfl, rfl⟩ (fun hc => ?_) (fun hc => ?_)
                              · replace hq := ifp hc hq
                                refine V.goto (t := 1006) d_La_law_723 ⟨rfl, rfl⟩ ?_
                                exact hq
                              · replace hq := ifn hc hq
                                refine V.aload d_La_law_701 rfl ?_
                                refine V.iconst (x := 0) d_La_law_703 (by decide) ?_
                                refine V.daload d_La_law_704 g216 g217 ?_
                                refine V.aload d_La_law_705 rfl ?_
                                refine V.iconst (x := 0) d_La_law_707 (by decide) ?_
                                refine V.daload d_La_law_708 g216 g217 ?_
                                refine V.dcmp d_La_law_709 ?_
                                refine V.if_eq (t := 721) d_La_law_710 ⟨rfl, rfl⟩ (fun hc => ?_) (fun hc => ?_)
                                · replace hq := ifp hc hq
                                  refine V.iconst (x := 0) d_La_law_721 (by decide) ?_
                                  refine V.zret (y := (0 : Int32)) d_La_law_722 rfl (by decide) ?_
                                  exact V.rI hq
                                · replace hq := ifn hc hq
                                  refine V.dload d_La_law_713 rfl ?_
                                  refine V.dload d_La_law_715 rfl ?_
                                  refine V.dcmp d_La_law_717 ?_
                                  refine V.if_ne (t := 723) d_La_law_718 ⟨rfl, rfl⟩ (fun hc => ?_) (fun hc => ?_)
                                  · replace hq := ifp hc hq
                                    refine V.iconst (x := 0) d_La_law_721 (by decide) ?_
                                    refine V.zret (y := (0 : Int32)) d_La_law_722 rfl (by decide) ?_
                                    exact V.rI hq
                                  · replace hq := ifn hc hq
                                    refine V.goto (t := 1006) d_La_law_723 ⟨rfl, rfl⟩ ?_
                                    exact hq
                            · replace hq := ifn hc hq
                              refine V.goto (t := 1006) d_La_law_723 ⟨rfl, rfl⟩ ?_
                              exact hq
                          · replace hq := ifn hc hq
                            refine V.iconst (x := 0) d_La_law_684 (by decide) ?_
                            refine V.zret (y := (0 : Int32)) d_La_law_685 rfl (by decide) ?_
                            exact V.rI hq
                        · replace hq := ifn hc hq
                          refine swW_c (fun hc => ?_) (fun hc => ?_)
                          · replace hq := ifp hc hq
                            refine V.tg (t := 726) rfl ?_
                            refine V.aload_n d_La_law_726 rfl ?_
                            refine V.aload_n d_La_law_727 rfl ?_
                            refine V.iload d_La_law_728 rfl ?_
                            refine V.iconst (x := 1) d_La_law_730 (by decide) ?_
                            refine V.iadd d_La_law_731 ?_
                            obtain ⟨g218, hq⟩ := hq
                            refine V.iaload d_La_law_732 g24 g218 ?_
                            refine V.aload_n d_La_law_733 rfl ?_
                            refine V.iload d_La_law_734 rfl ?_
                            refine V.iconst (x := 2) d_La_law_736 (by decide) ?_
                            refine V.iadd d_La_law_737 ?_
                            obtain ⟨g219, hq⟩ := hq
                            refine V.iaload d_La_law_738 g24 g219 ?_
                            refine V.i2l d_La_law_739 ?_
                            refine V.bipush (x := 32) d_La_law_740 (by decide) ?_
                            refine V.lshl d_La_law_742 ?_
                            refine V.aload_n d_La_law_743 rfl ?_
                            refine V.iload d_La_law_744 rfl ?_
                            refine V.iconst (x := 3) d_La_law_746 (by decide) ?_
                            refine V.iadd d_La_law_747 ?_
                            obtain ⟨g220, hq⟩ := hq
                            refine V.iaload d_La_law_748 g24 g220 ?_
                            refine V.i2l d_La_law_749 ?_
                            refine V.ldc2_w d_La_law_750 rfl ?_
                            refine V.land d_La_law_753 ?_
                            refine V.lor d_La_law_754 ?_
                            refine V.aload_n d_La_law_755 rfl ?_
                            refine V.callI d_La_law_756 (cS_call (as := [_, _, _, _]) (rs := []) rfl rfl ⟨leb rfl, leb rfl⟩) hq (fun v221 h222 hq => ?_)
                            refine V.istore (l' := [_, _, _, _, _, _, _, _, _]) d_La_law_759 rfl (ltb rfl) ?_
                            refine V.aload_n d_La_law_761 rfl ?_
                            refine V.aload_n d_La_law_762 rfl ?_
                            refine V.iload d_La_law_763 rfl ?_
                            refine V.iconst (x := 1) d_La_law_765 (by decide) ?_
                            refine V.iadd d_La_law_766 ?_
                            obtain ⟨g224, hq⟩ := hq
                            obtain ⟨g225, hq⟩ := hq
                            refine V.iaload d_La_law_767 g224 g225 ?_
                            refine V.aload_n d_La_law_768 rfl ?_
                            refine V.iload d_La_law_769 rfl ?_
                            refine V.iconst (x := 2) d_La_law_771 (by decide) ?_
                            refine V.iadd d_La_law_772 ?_
                            obtain ⟨g226, hq⟩ := hq
                            refine V.iaload d_La_law_773 g224 g226 ?_
                            refine V.i2l d_La_law_774 ?_
                            refine V.bipush (x := 32) d_La_law_775 (by decide) ?_
                            refine V.lshl d_La_law_777 ?_
                            refine V.aload_n d_La_law_778 rfl ?_
                            refine V.iload d_La_law_779 rfl ?_
                            refine V.iconst (x := 3) d_La_law_781 (by decide) ?_
                            refine V.iadd d_La_law_782 ?_
                            obtain ⟨g227, hq⟩ := hq
                            refine V.iaload d_La_law_783 g224 g227 ?_
                            refine V.i2l d_La_law_784 ?_
                            refine V.ldc2_w d_La_law_785 rfl ?_
                            refine V.land d_La_law_788 ?_
                            refine V.lor d_La_law_789 ?_
                            obtain ⟨g228, hq⟩ := hq
                            refine V.callI d_La_law_790 (cV_call (t := [_, _]) (rs := []) rfl (Or.inl rfl) rfl (lk1 g228) ⟨leb rfl, leb rfl⟩) hq (fun v229 h230 hq => ?_)
                            refine V.istore (l' := [_, _, _, _, _, _, _, _, _]) d_La_law_793 rfl (ltb rfl) ?_
                            refine V.aload_n d_La_law_795 rfl ?_
                            obtain ⟨g232, hq⟩ := hq
                            refine V.callI d_La_law_796 (cV_call (t := []) (rs := []) rfl (Or.inl rfl) rfl (lk1 g232) ⟨leb rfl, leb rfl⟩) hq (fun v233 h234 hq => ?_)
                            refine V.iload d_La_law_799 rfl ?_
                            refine V.ic_eq (t := 806) d_La_law_801 ⟨rfl, rfl⟩ (fun hc => ?_) (fun hc => ?_)
                            · replace hq := ifp hc hq
                              refine V.iload d_La_law_806 rfl ?_
                              refine V.if_ne (t := 823) d_La_law_808 ⟨rfl, rfl⟩ (fun hc => ?_) (fun hc => ?_)
                              · replace hq := ifp hc hq
                                refine V.aload_n d_La_law_811 rfl ?_
                                refine V.iconst (x := 0) d_La_law_812 (by decide) ?_
                                obtain ⟨g236, hq⟩ := hq
                                obtain ⟨g237, hq⟩ := hq
                                refine V.laload d_La_law_813 g236 g237 ?_
                                refine V.iload d_La_law_814 rfl ?_
                                refine V.i2l d_La_law_816 ?_
                                refine V.lc_eq d_La_law_817 d_La_law_818 ⟨rfl, rfl⟩ (fun hc => ?_) (fun hc => ?_)
                                · replace hq := ifp hc hq
                                  refine V.goto (t := 1006) d_La_law_823 ⟨rfl, rfl⟩ ?_
                                  exact hq
                                · replace hq := ifn hc hq
                                  refine V.iconst (x := 0) d_La_law_821 (by decide) ?_
                                  refine V.zret (y := (0 : Int32)) d_La_law_822 rfl (by decide) ?_
                                  exact V.rI hq
                              · replace hq := ifn hc hq
                                refine V.goto (t := 1006) d_La_law_823 ⟨rfl, rfl⟩ ?_
                                exact hq
                            · replace hq := ifn hc hq
                              refine V.iconst (x := 0) d_La_law_804 (by decide) ?_
                              refine V.zret (y := (0 : Int32)) d_La_law_805 rfl (by decide) ?_
                              exact V.rI hq
                          · replace hq := ifn hc hq
                            refine swW_c (fun hc => ?_) (fun hc => ?_)
                            · replace hq := ifp hc hq
                              refine V.tg (t := 826) rfl ?_
                              refine V.aload_n d_La_law_826 rfl ?_
                              refine V.aload_n d_La_law_827 rfl ?_
                              refine V.iload d_La_law_828 rfl ?_
                              refine V.iconst (x := 1) d_La_law_830 (by decide) ?_
                              refine V.iadd d_La_law_831 ?_
                              obtain ⟨g238, hq⟩ := hq
                              refine V.iaload d_La_law_832 g24 g238 ?_
                              refine V.aload_n d_La_law_833 rfl ?_
                              refine V.iload d_La_law_834 rfl ?_
                              refine V.iconst (x := 2) d_La_law_836 (by decide) ?_
                              refine V.iadd d_La_law_837 ?_
                              obtain ⟨g239, hq⟩ := hq
                              refine V.iaload d_La_law_838 g24 g239 ?_
                              refine V.aload_n d_La_law_839 rfl ?_
                              refine V.callI d_La_law_840 (cS_call (as := [_, _, _, _]) (rs := []) rfl rfl ⟨leb rfl, leb rfl⟩) hq (fun v240 h241 hq => ?_)
                              refine V.istore (l' := [_, _, _, _, _, _, _, _, _]) d_La_law_843 rfl (ltb rfl) ?_
                              refine V.aload_n d_La_law_845 rfl ?_
                              refine V.aload_n d_La_law_846 rfl ?_
                              refine V.iload d_La_law_847 rfl ?_
                              refine V.iconst (x := 1) d_La_law_849 (by decide) ?_
                              refine V.iadd d_La_law_850 ?_
                              obtain ⟨g243, hq⟩ := hq
                              obtain ⟨g244, hq⟩ := hq
                              refine V.iaload d_La_law_851 g243 g244 ?_
                              refine V.aload_n d_La_law_852 rfl ?_
                              refine V.iload d_La_law_853 rfl ?_
                              refine V.iconst (x := 2) d_La_law_855 (by decide) ?_
                              refine V.iadd d_La_law_856 ?_
                              obtain ⟨g245, hq⟩ := hq
                              refine V.iaload d_La_law_857 g243 g245 ?_
                              obtain ⟨g246, hq⟩ := hq
                              refine V.callI d_La_law_858 (cV_call (t := [_, _]) (rs := []) rfl (Or.inl rfl) rfl (lk1 g246) ⟨leb rfl, leb rfl⟩) hq (fun v247 h248 hq => ?_)
                              refine V.istore (l' := [_, _, _, _, _, _, _, _, _]) d_La_law_861 rfl (ltb rfl) ?_
                              refine V.aload_n d_La_law_863 rfl ?_
                              obtain ⟨g250, hq⟩ := hq
                              refine V.callI d_La_law_864 (cV_call (t := []) (rs := []) rfl (Or.inl rfl) rfl (lk1 g250) ⟨leb rfl, leb rfl⟩) hq (fun v251 h252 hq => ?_)
                              refine V.iload d_La_law_867 rfl ?_
                              refine V.ic_eq (t := 874) d_La_law_869 ⟨rfl, rfl⟩ (fun hc => ?_) (fun hc => ?_)
                              · replace hq := ifp hc hq
                                refine V.iload d_La_law_874 rfl ?_
                                refine V.if_ne (t := 891) d_La_law_876 ⟨rfl, rfl⟩ (fun hc => ?_) (fun hc => ?_)
                                · replace hq := ifp hc hq
                                  refine V.aload_n d_La_law_879 rfl ?_
                                  refine V.iconst (x := 0) d_La_law_880 (by decide) ?_
                                  obtain ⟨g254, hq⟩ := hq
                                  obtain ⟨g255, hq⟩ := hq
                                  refine V.laload d_La_law_881 g254 g255 ?_
                                  refine V.iload d_La_law_882 rfl ?_
                                  refine V.i2l d_La_law_884 ?_
                                  refine V.lc_eq d_La_law_885 d_La_law_886 ⟨rfl, rfl⟩ (fun hc => ?_) (fun hc => ?_)
                                  · replace hq := ifp hc hq
                                    refine V.goto (t := 1006) d_La_law_891 ⟨rfl, rfl⟩ ?_
                                    exact hq
                                  · replace hq := ifn hc hq
                                    refine V.iconst (x := 0) d_La_law_889 (by decide) ?_
                                    refine V.zret (y := (0 : Int32)) d_La_law_890 rfl (by decide) ?_
                                    exact V.rI hq
                                · replace hq := ifn hc hq
                                  refine V.goto (t := 1006) d_La_law_891 ⟨rfl, rfl⟩ ?_
                                  exact hq
                              · replace hq := ifn hc hq
                                refine V.iconst (x := 0) d_La_law_872 (by decide) ?_
                                refine V.zret (y := (0 : Int32)) d_La_law_873 rfl (by decide) ?_
                                exact V.rI hq
                            · replace hq := ifn hc hq
                              refine swW_c (fun hc => ?_) (fun hc => ?_)
                              · replace hq := ifp hc hq
                                refine V.tg (t := 894) rfl ?_
                                refine V.aload_n d_La_law_894 rfl ?_
                                refine V.aload_n d_La_law_895 rfl ?_
                                refine V.iload d_La_law_896 rfl ?_
                                refine V.iconst (x := 1) d_La_law_898 (by decide) ?_
                                refine V.iadd d_La_law_899 ?_
                                obtain ⟨g256, hq⟩ := hq
                                refine V.iaload d_La_law_900 g24 g256 ?_
                                refine V.aload_n d_La_law_901 rfl ?_
                                refine V.callI d_La_law_902 (cS_call (as := [_, _, _]) (rs := []) rfl rfl ⟨leb rfl, leb rfl⟩) hq (fun v257 h258 hq => ?_)
                                refine V.istore (l' := [_, _, _, _, _, _, _, _, _]) d_La_law_905 rfl (ltb rfl) ?_
                                refine V.aload_n d_La_law_907 rfl ?_
                                refine V.aload_n d_La_law_908 rfl ?_
                                refine V.iload d_La_law_909 rfl ?_
                                refine V.iconst (x := 1) d_La_law_911 (by decide) ?_
                                refine V.iadd d_La_law_912 ?_
                                obtain ⟨g260, hq⟩ := hq
                                obtain ⟨g261, hq⟩ := hq
                                refine V.iaload d_La_law_913 g260 g261 ?_
                                obtain ⟨g262, hq⟩ := hq
                                refine V.callI d_La_law_914 (cV_call (t := [_]) (rs := []) rfl (Or.inl rfl) rfl (lk1 g262) ⟨leb rfl, leb rfl⟩) hq (fun v263 h264 hq => ?_)
                                refine V.istore (l' := [_, _, _, _, _, _, _, _, _]) d_La_law_917 rfl (ltb rfl) ?_
                                refine V.aload_n d_La_law_919 rfl ?_
                                obtain ⟨g266, hq⟩ := hq
                                refine V.callI d_La_law_920 (cV_call (t := []) (rs := []) rfl (Or.inl rfl) rfl (lk1 g266) ⟨leb rfl, leb rfl⟩) hq (fun v267 h268 hq => ?_)
                                refine V.iload d_La_law_923 rfl ?_
                                refine V.ic_eq (t := 930) d_La_law_925 ⟨rfl, rfl⟩ (fun hc => ?_) (fun hc => ?_)
                                · replace hq := ifp hc hq
                                  refine V.iload d_La_law_930 rfl ?_
                                  refine V.if_ne (t := 947) d_La_law_932 ⟨rfl, rfl⟩ (fun hc => ?_) (fun hc => ?_)
                                  · replace hq := ifp hc hq
                                    refine V.aload_n d_La_law_935 rfl ?_
                                    refine V.iconst (x := 0) d_La_law_936 (by decide) ?_
                                    obtain ⟨g270, hq⟩ := hq
                                    obtain ⟨g271, hq⟩ := hq
                                    refine V.laload d_La_law_937 g270 g271 ?_
                                    refine V.iload d_La_law_938 rfl ?_
                                    refine V.i2l d_La_law_940 ?_
                                    refine V.lc_eq d_La_law_941 d_La_law_942 ⟨rfl, rfl⟩ (fun hc => ?_) (fun hc => ?_)
                                    · replace hq := ifp hc hq
                                      refine V.goto (t := 1006) d_La_law_947 ⟨rfl, rfl⟩ ?_
                                      exact hq
                                    · replace hq := ifn hc hq
                                      refine V.iconst (x := 0) d_La_law_945 (by decide) ?_
                                      refine V.zret (y := (0 : Int32)) d_La_law_946 rfl (by decide) ?_
                                      exact V.rI hq
                                  · replace hq := ifn hc hq
                                    refine V.goto (t := 1006) d_La_law_947 ⟨rfl, rfl⟩ ?_
                                    exact hq
                                · replace hq := ifn hc hq
                                  refine V.iconst (x := 0) d_La_law_928 (by decide) ?_
                                  refine V.zret (y := (0 : Int32)) d_La_law_929 rfl (by decide) ?_
                                  exact V.rI hq
                              · replace hq := ifn hc hq
                                refine swW_c (fun hc => ?_) (fun hc => ?_)
                                · replace hq := ifp hc hq
                                  refine V.tg (t := 950) rfl ?_
                                  refine V.aload_n d_La_law_950 rfl ?_
                                  refine V.aload_n d_La_law_951 rfl ?_
                                  refine V.iload d_La_law_952 rfl ?_
                                  refine V.iconst (x := 1) d_La_law_954 (by decide) ?_
                                  refine V.iadd d_La_law_955 ?_
                                  obtain ⟨g272, hq⟩ := hq
                                  refine V.iaload d_La_law_956 g24 g272 ?_
                                  refine V.aload_n d_La_law_957 rfl ?_
                                  refine V.callI d_La_law_958 (cS_call (as := [_, _, _]) (rs := []) rfl rfl ⟨leb rfl, leb rfl⟩) hq (fun v273 h274 hq => ?_)
                                  refine V.istore (l' := [_, _, _, _, _, _, _, _, _]) d_La_law_961 rfl (ltb rfl) ?_
                                  refine V.aload_n d_La_law_963 rfl ?_
                                  refine V.aload_n d_La_law_964 rfl ?_
                                  refine V.iload d_La_law_965 rfl ?_
                                  refine V.iconst (x := 1) d_La_law_967 (by decide) ?_
                                  refine V.iadd d_La_law_968 ?_
                                  obtain ⟨g276, hq⟩ := hq
                                  obtain ⟨g277, hq⟩ := hq
                                  refine V.iaload d_La_law_969 g276 g277 ?_
                                  obtain ⟨g278, hq⟩ := hq
                                  refine V.callI d_La_law_970 (cV_call (t := [_]) (rs := []) rfl (Or.inl rfl) rfl (lk1 g278) ⟨leb rfl, leb rfl⟩) hq (fun v279 h280 hq => ?_)
                                  refine V.istore (l' := [_, _, _, _, _, _, _, _, _]) d_La_law_973 rfl (ltb rfl) ?_
                                  refine V.aload_n d_La_law_975 rfl ?_
                                  obtain ⟨g282, hq⟩ := hq
                                  refine V.callI d_La_law_976 (cV_call (t := []) (rs := []) rfl (Or.inl rfl) rfl (lk1 g282) ⟨leb rfl, leb rfl⟩) hq (fun v283 h284 hq => ?_)
                                  refine V.iload d_La_law_979 rfl ?_
                                  refine V.ic_eq (t := 986) d_La_law_981 ⟨rfl, rfl⟩ (fun hc => ?_) (fun hc => ?_)
                                  · replace hq := ifp hc hq
                                    refine V.iload d_La_law_986 rfl ?_
                                    refine V.if_ne (t := 1003) d_La_law_988 ⟨rfl, rfl⟩ (fun hc => ?_) (fun hc => ?_)
                                    · replace hq := ifp hc hq
                                      refine V.aload_n d_La_law_991 rfl ?_
                                      refine V.iconst (x := 0) d_La_law_992 (by decide) ?_
                                      obtain ⟨g286, hq⟩ := hq
                                      obtain ⟨g287, hq⟩ := hq
                                      refine V.laload d_La_law_993 g286 g287 ?_
                                      refine V.iload d_La_law_994 rfl ?_
                                      refine V.i2l d_La_law_996 ?_
                                      refine V.lc_eq d_La_law_997 d_La_law_998 ⟨rfl, rfl⟩ (fun hc => ?_) (fun hc => ?_)
                                      · replace hq := ifp hc hq
                                        refine V.goto (t := 1006) d_La_law_1003 ⟨rfl, rfl⟩ ?_
                                        exact hq
                                      · replace hq := ifn hc hq
                                        refine V.iconst (x := 0) d_La_law_1001 (by decide) ?_
                                        refine V.zret (y := (0 : Int32)) d_La_law_1002 rfl (by decide) ?_
                                        exact V.rI hq
                                    · replace hq := ifn hc hq
                                      refine V.goto (t := 1006) d_La_law_1003 ⟨rfl, rfl⟩ ?_
                                      exact hq
                                  · replace hq := ifn hc hq
                                    refine V.iconst (x := 0) d_La_law_984 (by decide) ?_
                                    refine V.zret (y := (0 : Int32)) d_La_law_985 rfl (by decide) ?_
                                    exact V.rI hq
                                · replace hq := ifn hc hq
                                  refine V.tg (t := 1006) rfl ?_
                                  exact hq
theorem w_La_law_1006 {d : Nat} {K : Int32 → Hp → Prop} {x0 : Nat} {x1 : Nat} {x2 : Nat} {x3 : Nat} {x4 : Nat} {x5 : Int32} {y6 : Option Value} {y7 : Option Value} {y8 : Option Value} {h0 : Hp} (hq :
  (∀ v288 : Int32, v288 = (x5 + 4) → Wp (d + 1) m_La_law 28 [some (.ref x0), some (.ref x1), some (.ref x2), some (.ref x3), some (.ref x4), some (.int v288), y6, y7, y8] [] h0 (QI K))) : Wp (d + 1) m_La_law 1006 [some (.ref x0), some (.ref x1), some (.ref x2), some (.ref x3), some (.ref x4), some (.int x5), y6, y7, y8] [] h0 (QI K) := by
  replace hq := hq _ rfl
  refine V.iinc (l' := [_, _, _, _, _, _, _, _, _]) d_La_law_1006 rfl (show _ + _ = _ + (4 : Int32) from rfl) rfl ?_
  refine V.goto (t := 28) d_La_law_1009 ⟨rfl, rfl⟩ ?_
  exact hq
