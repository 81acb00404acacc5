def clOK (c k : Nat) (v : Nat × Nat) : Prop := Jvm.Cond.classLink (clN c) k (clN v.1) ∈ lw_tbl ∧ Jvm.Cond.instantiable (clN v.1) v.2 ∈ lw_tbl ∧ Jvm.Cond.initialized (clN v.1) ∈ lw_tbl ∧ v.1 < 14
def csOK (c k : Nat) (v : Value) : Prop := (∃ x, v = .long x ∧ Jvm.Cond.constantLong (clN c) k x ∈ lw_tbl) ∨ (∃ x, v = .double x ∧ Jvm.Cond.constantDouble (clN c) k x ∈ lw_tbl)
theorem cw__0 : ∀ e ∈ cls_0, clOK 0 e.1 e.2 := fa_nil
theorem cw__1 : ∀ e ∈ cls_1, clOK 1 e.1 e.2 := fa_nil
theorem cw__2 : ∀ e ∈ cls_2, clOK 2 e.1 e.2 := fa_nil
theorem cw__3_9 : clOK 3 9 (2, 16) := ⟨ix 136 (by decide +kernel), ix 138 (by decide +kernel), ix 73 (by decide +kernel), by decide⟩
theorem cw__3 : ∀ e ∈ cls_3, clOK 3 e.1 e.2 := fa_cons cw__3_9 (fa_nil)
theorem cw__4 : ∀ e ∈ cls_4, clOK 4 e.1 e.2 := fa_nil
theorem cw__5 : ∀ e ∈ cls_5, clOK 5 e.1 e.2 := fa_nil
theorem cw__6 : ∀ e ∈ cls_6, clOK 6 e.1 e.2 := fa_nil
theorem cw__7_7 : clOK 7 7 (0, 2) := ⟨ix 97 (by decide +kernel), ix 98 (by decide +kernel), ix 70 (by decide +kernel), by decide⟩
theorem cw__7_21 : clOK 7 21 (1, 2) := ⟨ix 114 (by decide +kernel), ix 115 (by decide +kernel), ix 71 (by decide +kernel), by decide⟩
theorem cw__7_34 : clOK 7 34 (3, 2) := ⟨ix 130 (by decide +kernel), ix 131 (by decide +kernel), ix 72 (by decide +kernel), by decide⟩
theorem cw__7_59 : clOK 7 59 (9, 6) := ⟨ix 404 (by decide +kernel), ix 405 (by decide +kernel), ix 78 (by decide +kernel), by decide⟩
theorem cw__7_70 : clOK 7 70 (10, 6) := ⟨ix 477 (by decide +kernel), ix 478 (by decide +kernel), ix 79 (by decide +kernel), by decide⟩
theorem cw__7_84 : clOK 7 84 (4, 3) := ⟨ix 275 (by decide +kernel), ix 276 (by decide +kernel), ix 80 (by decide +kernel), by decide⟩
theorem cw__7_93 : clOK 7 93 (12, 6) := ⟨ix 505 (by decide +kernel), ix 506 (by decide +kernel), ix 82 (by decide +kernel), by decide⟩
theorem cw__7_107 : clOK 7 107 (13, 6) := ⟨ix 599 (by decide +kernel), ix 600 (by decide +kernel), ix 83 (by decide +kernel), by decide⟩
theorem cw__7_128 : clOK 7 128 (5, 5) := ⟨ix 656 (by decide +kernel), ix 657 (by decide +kernel), ix 85 (by decide +kernel), by decide⟩
theorem cw__7_144 : clOK 7 144 (11, 6) := ⟨ix 837 (by decide +kernel), ix 838 (by decide +kernel), ix 86 (by decide +kernel), by decide⟩
theorem cw__7_154 : clOK 7 154 (6, 7) := ⟨ix 870 (by decide +kernel), ix 764 (by decide +kernel), ix 88 (by decide +kernel), by decide⟩
theorem cw__7 : ∀ e ∈ cls_7, clOK 7 e.1 e.2 := fa_cons cw__7_7 (fa_cons cw__7_21 (fa_cons cw__7_34 (fa_cons cw__7_59 (fa_cons cw__7_70 (fa_cons cw__7_84 (fa_cons cw__7_93 (fa_cons cw__7_107 (fa_cons cw__7_128 (fa_cons cw__7_144 (fa_cons cw__7_154 (fa_nil)))))))))))
theorem cw__8 : ∀ e ∈ cls_8, clOK 8 e.1 e.2 := fa_nil
theorem cw__9 : ∀ e ∈ cls_9, clOK 9 e.1 e.2 := fa_nil
theorem cw__10 : ∀ e ∈ cls_10, clOK 10 e.1 e.2 := fa_nil
theorem cw__11 : ∀ e ∈ cls_11, clOK 11 e.1 e.2 := fa_nil
theorem cw__12 : ∀ e ∈ cls_12, clOK 12 e.1 e.2 := fa_nil
theorem cw__13 : ∀ e ∈ cls_13, clOK 13 e.1 e.2 := fa_nil
theorem cw__15 : ∀ e ∈ cls_15, clOK 15 e.1 e.2 := fa_nil
theorem cw__16_8 : clOK 16 8 (7, 10) := ⟨ix 89 (by decide +kernel), ix 90 (by decide +kernel), ix 69 (by decide +kernel), by decide⟩
theorem cw__16_68 : clOK 16 68 (8, 49) := ⟨ix 974 (by decide +kernel), ix 975 (by decide +kernel), ix 74 (by decide +kernel), by decide⟩
theorem cw__16 : ∀ e ∈ cls_16, clOK 16 e.1 e.2 := fa_cons cw__16_8 (fa_cons cw__16_68 (fa_nil))
theorem cw__17 : ∀ e ∈ cls_17, clOK 17 e.1 e.2 := fa_nil
theorem cw__ok {c k : Nat} {v : Nat × Nat} (h : clsOf c k = some v) : clOK c k v := by
  have hm := lookup_mem h
  unfold clsL at hm
  split at hm
  · exact cw__0 _ hm
  · exact cw__1 _ hm
  · exact cw__2 _ hm
  · exact cw__3 _ hm
  · exact cw__4 _ hm
  · exact cw__5 _ hm
  · exact cw__6 _ hm
  · exact cw__7 _ hm
  · exact cw__8 _ hm
  · exact cw__9 _ hm
  · exact cw__10 _ hm
  · exact cw__11 _ hm
  · exact cw__12 _ hm
  · exact cw__13 _ hm
  · exact cw__15 _ hm
  · exact cw__16 _ hm
  · exact cw__17 _ hm
  · cases hm
theorem kw__0 : ∀ e ∈ cst_0, csOK 0 e.1 e.2 := fa_nil
theorem kw__1 : ∀ e ∈ cst_1, csOK 1 e.1 e.2 := fa_nil
theorem kw__2_66 : csOK 2 66 (.long (-1)) := Or.inl ⟨_, rfl, ix 377 (by decide +kernel)⟩
theorem kw__2 : ∀ e ∈ cst_2, csOK 2 e.1 e.2 := fa_cons kw__2_66 (fa_nil)
theorem kw__3_54 : csOK 3 54 (.long (1000)) := Or.inl ⟨_, rfl, ix 575 (by decide +kernel)⟩
theorem kw__3_125 : csOK 3 125 (.long (21)) := Or.inl ⟨_, rfl, ix 577 (by decide +kernel)⟩
theorem kw__3_127 : csOK 3 127 (.long (120)) := Or.inl ⟨_, rfl, ix 578 (by decide +kernel)⟩
theorem kw__3 : ∀ e ∈ cst_3, csOK 3 e.1 e.2 := fa_cons kw__3_54 (fa_cons kw__3_125 (fa_cons kw__3_127 (fa_nil)))
theorem kw__4 : ∀ e ∈ cst_4, csOK 4 e.1 e.2 := fa_nil
theorem kw__5 : ∀ e ∈ cst_5, csOK 5 e.1 e.2 := fa_nil
theorem kw__6_50 : csOK 6 50 (.long (20)) := Or.inl ⟨_, rfl, ix 799 (by decide +kernel)⟩
theorem kw__6_60 : csOK 6 60 (.long (120)) := Or.inl ⟨_, rfl, ix 818 (by decide +kernel)⟩
theorem kw__6_87 : csOK 6 87 (.long (255)) := Or.inl ⟨_, rfl, ix 804 (by decide +kernel)⟩
theorem kw__6 : ∀ e ∈ cst_6, csOK 6 e.1 e.2 := fa_cons kw__6_50 (fa_cons kw__6_60 (fa_cons kw__6_87 (fa_nil)))
theorem kw__7_213 : csOK 7 213 (.long (4503599627370495)) := Or.inl ⟨_, rfl, ix 925 (by decide +kernel)⟩
theorem kw__7_215 : csOK 7 215 (.long (4503599627370496)) := Or.inl ⟨_, rfl, ix 926 (by decide +kernel)⟩
theorem kw__7_217 : csOK 7 217 (.double 13830554455654793216) := Or.inr ⟨_, rfl, ix 927 (by decide +kernel)⟩
theorem kw__7_225 : csOK 7 225 (.double 4611686018427387904) := Or.inr ⟨_, rfl, ix 929 (by decide +kernel)⟩
theorem kw__7_227 : csOK 7 227 (.double 4602678819172646912) := Or.inr ⟨_, rfl, ix 930 (by decide +kernel)⟩
theorem kw__7 : ∀ e ∈ cst_7, csOK 7 e.1 e.2 := fa_cons kw__7_213 (fa_cons kw__7_215 (fa_cons kw__7_217 (fa_cons kw__7_225 (fa_cons kw__7_227 (fa_nil)))))
theorem kw__8_173 : csOK 8 173 (.long (2)) := Or.inl ⟨_, rfl, ix 1213 (by decide +kernel)⟩
theorem kw__8_175 : csOK 8 175 (.long (1000000)) := Or.inl ⟨_, rfl, ix 1234 (by decide +kernel)⟩
theorem kw__8_177 : csOK 8 177 (.long (4)) := Or.inl ⟨_, rfl, ix 1222 (by decide +kernel)⟩
theorem kw__8_179 : csOK 8 179 (.long (8)) := Or.inl ⟨_, rfl, ix 1223 (by decide +kernel)⟩
theorem kw__8_181 : csOK 8 181 (.long (21)) := Or.inl ⟨_, rfl, ix 1224 (by decide +kernel)⟩
theorem kw__8_183 : csOK 8 183 (.long (120)) := Or.inl ⟨_, rfl, ix 1225 (by decide +kernel)⟩
theorem kw__8_193 : csOK 8 193 (.long (1000)) := Or.inl ⟨_, rfl, ix 1239 (by decide +kernel)⟩
theorem kw__8_275 : csOK 8 275 (.long (20)) := Or.inl ⟨_, rfl, ix 1332 (by decide +kernel)⟩
theorem kw__8_277 : csOK 8 277 (.long (255)) := Or.inl ⟨_, rfl, ix 1333 (by decide +kernel)⟩
theorem kw__8_322 : csOK 8 322 (.long (2047)) := Or.inl ⟨_, rfl, ix 1358 (by decide +kernel)⟩
theorem kw__8_324 : csOK 8 324 (.long (4503599627370495)) := Or.inl ⟨_, rfl, ix 1359 (by decide +kernel)⟩
theorem kw__8_326 : csOK 8 326 (.double 9218868437227405312) := Or.inr ⟨_, rfl, ix 1360 (by decide +kernel)⟩
theorem kw__8_328 : csOK 8 328 (.double 4841369599423283200) := Or.inr ⟨_, rfl, ix 1361 (by decide +kernel)⟩
theorem kw__8_330 : csOK 8 330 (.double 4611686018427387904) := Or.inr ⟨_, rfl, ix 1362 (by decide +kernel)⟩
theorem kw__8_332 : csOK 8 332 (.double 4602678819172646912) := Or.inr ⟨_, rfl, ix 1363 (by decide +kernel)⟩
theorem kw__8 : ∀ e ∈ cst_8, csOK 8 e.1 e.2 := fa_cons kw__8_173 (fa_cons kw__8_175 (fa_cons kw__8_177 (fa_cons kw__8_179 (fa_cons kw__8_181 (fa_cons kw__8_183 (fa_cons kw__8_193 (fa_cons kw__8_275 (fa_cons kw__8_277 (fa_cons kw__8_322 (fa_cons kw__8_324 (fa_cons kw__8_326 (fa_cons kw__8_328 (fa_cons kw__8_330 (fa_cons kw__8_332 (fa_nil)))))))))))))))
theorem kw__9 : ∀ e ∈ cst_9, csOK 9 e.1 e.2 := fa_nil
theorem kw__10 : ∀ e ∈ cst_10, csOK 10 e.1 e.2 := fa_nil
theorem kw__11 : ∀ e ∈ cst_11, csOK 11 e.1 e.2 := fa_nil
theorem kw__12 : ∀ e ∈ cst_12, csOK 12 e.1 e.2 := fa_nil
theorem kw__13 : ∀ e ∈ cst_13, csOK 13 e.1 e.2 := fa_nil
theorem kw__15_89 : csOK 15 89 (.long (-1)) := Or.inl ⟨_, rfl, ix 729 (by decide +kernel)⟩
theorem kw__15 : ∀ e ∈ cst_15, csOK 15 e.1 e.2 := fa_cons kw__15_89 (fa_nil)
theorem kw__16_71 : csOK 16 71 (.long (4294967295)) := Or.inl ⟨_, rfl, ix 1380 (by decide +kernel)⟩
theorem kw__16 : ∀ e ∈ cst_16, csOK 16 e.1 e.2 := fa_cons kw__16_71 (fa_nil)
theorem kw__17 : ∀ e ∈ cst_17, csOK 17 e.1 e.2 := fa_nil
theorem kw__ok {c k : Nat} {v : Value} (h : cstOf c k = some v) : csOK c k v := by
  have hm := lookup_mem h
  unfold cstL at hm
  split at hm
  · exact kw__0 _ hm
  · exact kw__1 _ hm
  · exact kw__2 _ hm
  · exact kw__3 _ hm
  · exact kw__4 _ hm
  · exact kw__5 _ hm
  · exact kw__6 _ hm
  · exact kw__7 _ hm
  · exact kw__8 _ hm
  · exact kw__9 _ hm
  · exact kw__10 _ hm
  · exact kw__11 _ hm
  · exact kw__12 _ hm
  · exact kw__13 _ hm
  · exact kw__15 _ hm
  · exact kw__16 _ hm
  · exact kw__17 _ hm
  · cases hm
def exI (x : Nat) : Nat := match x with | 13 => 13 | _ => 7
def exB (x : Nat) : ByteArray := match x with | 13 => ⟨#[0x2a, 0x2b, 0xb7, 0x00, 0x0d, 0xb1]⟩ | _ => ⟨#[0x2a, 0x2b, 0xb7, 0x00, 0x07, 0xb1]⟩
def exS : List Jvm.Cond := Bundle.throwableAtoms ++ Bundle.throwableSAtoms ++ Bundle.chainSAtoms "java/lang/RuntimeException" ["java/lang/Exception"] ++ [.fieldLink Bundle.tN 198 Bundle.tN "backtrace" "Ljava/lang/Object;", .lays Bundle.tN Bundle.tN "backtrace" "Ljava/lang/Object;"]
def exA (own : String) (ic x : Nat) : List Jvm.Cond := Bundle.passSAtoms (clN x) "java/lang/RuntimeException" (exI x) (exB x) ++ [.methodLink own ic (Bundle.initS (clN x)), .instantiable (clN x) 6, .initialized (clN x), .castable (clN x) (clN x), .selects (clN x) Bundle.tFill0 Bundle.tFill0, .selects (clN x) Bundle.tFill Bundle.tFill, .lays (clN x) Bundle.tN "cause" "Ljava/lang/Throwable;", .lays (clN x) Bundle.tN "stackTrace" Bundle.steD, .lays (clN x) Bundle.tN "suppressedExceptions" Bundle.listD, .lays (clN x) Bundle.tN "detailMessage" "Ljava/lang/String;", .lays (clN x) Bundle.tN "backtrace" "Ljava/lang/Object;"]
theorem exS_ok : exS.all (fun a => decide (a ∈ lw_tbl)) = true := by decide +kernel
theorem ex_63 : (exA (clN 7) 63 9).all (fun a => decide (a ∈ lw_tbl)) = true := by decide +kernel
theorem ex_74 : (exA (clN 7) 74 10).all (fun a => decide (a ∈ lw_tbl)) = true := by decide +kernel
theorem ex_97 : (exA (clN 7) 97 12).all (fun a => decide (a ∈ lw_tbl)) = true := by decide +kernel
theorem ex_111 : (exA (clN 7) 111 13).all (fun a => decide (a ∈ lw_tbl)) = true := by decide +kernel
theorem ex_148 : (exA (clN 7) 148 11).all (fun a => decide (a ∈ lw_tbl)) = true := by decide +kernel
theorem exc_ok : ∀ e ∈ excT, (exA (clN e.1) e.2.1 e.2.2).all (fun a => decide (a ∈ lw_tbl)) = true ∧ 9 ≤ e.2.2 ∧ e.2.2 < 14 := fa_cons ⟨ex_63, by decide, by decide⟩ (fa_cons ⟨ex_74, by decide, by decide⟩ (fa_cons ⟨ex_97, by decide, by decide⟩ (fa_cons ⟨ex_111, by decide, by decide⟩ (fa_cons ⟨ex_148, by decide, by decide⟩ (fa_nil)))))
theorem cp_n : Jvm.Cond.native arraycopyName ∈ lw_tbl := ix 862 (by decide +kernel)
theorem cp_s : Jvm.Cond.static arraycopyName ∈ lw_tbl := ix 861 (by decide +kernel)
theorem cp_i : Jvm.Cond.initialized "java/lang/System" ∈ lw_tbl := ix 87 (by decide +kernel)
theorem ma_i : Jvm.Cond.initialized "java/lang/Math" ∈ lw_tbl := ix 81 (by decide +kernel)
theorem mxI_s : Jvm.Cond.static Lib.Math.max.name ∈ lw_tbl := ix 363 (by decide +kernel)
theorem mxI_c : Jvm.Cond.code Lib.Math.max.name Lib.Math.max.code 2 (some .int) ∈ lw_tbl := ix 364 (by decide +kernel)
theorem mnI_s : Jvm.Cond.static Lib.Math.min.name ∈ lw_tbl := ix 858 (by decide +kernel)
theorem mnI_c : Jvm.Cond.code Lib.Math.min.name Lib.Math.min.code 2 (some .int) ∈ lw_tbl := ix 859 (by decide +kernel)
theorem mxL_s : Jvm.Cond.static Lib.MathLoose.max_long.x ∈ lw_tbl := ix 387 (by decide +kernel)
theorem mxL_c : Jvm.Cond.code Lib.MathLoose.max_long.x Lib.MathLoose.max_long.code 4 (some .long) ∈ lw_tbl := ix 388 (by decide +kernel)
theorem mnL_s : Jvm.Cond.static Lib.MathLoose.min_long.x ∈ lw_tbl := ix 390 (by decide +kernel)
theorem mnL_c : Jvm.Cond.code Lib.MathLoose.min_long.x Lib.MathLoose.min_long.code 4 (some .long) ∈ lw_tbl := ix 391 (by decide +kernel)
theorem oi_i : Jvm.Cond.instanceMethod Lib.objectInit ∈ lw_tbl := ix 95 (by decide +kernel)
theorem oi_c : Jvm.Cond.code Lib.objectInit ⟨#[0xb1]⟩ 1 none ∈ lw_tbl := ix 96 (by decide +kernel)
theorem ac_I : Jvm.Cond.arrayClass .int ∈ lw_tbl := ix 1128 (by decide +kernel)
theorem ac_L : Jvm.Cond.arrayClass .long ∈ lw_tbl := ix 129 (by decide +kernel)
theorem ac_B : Jvm.Cond.arrayClass .byte ∈ lw_tbl := ix 113 (by decide +kernel)
theorem ac_D : Jvm.Cond.arrayClass .double ∈ lw_tbl := ix 1381 (by decide +kernel)
theorem ao_N : Jvm.Cond.arrayOver (.object "FormatForge$Node") ∈ lw_tbl := ix 137 (by decide +kernel)
