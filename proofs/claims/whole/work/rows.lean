section
-- ===== PART A: goes FIRST, ahead of the names: the tables' words, and 'selects' of the private methods out of them =====
/-- a private method of a class that the tables say can be made, by its rows of tables_1 -/
def lw_okq (q : MethodName × Nat) : Prop := (q.1.cls ≠ "java/lang/invoke/MethodHandle" ∧ q.1.cls ≠ "java/lang/invoke/VarHandle") ∧ Cond.instantiable q.1.cls q.2 ∈ tables_1 ∧ Cond.privateMethod q.1 ∈ tables_1 ∧ Cond.instanceMethod q.1 ∈ tables_1
theorem lw_p0 : lw_okq (⟨"FormatForge$Parser", "passType", "(LFormatForge$Node;II)LFormatForge$Node;"⟩, 3) := ⟨⟨by decide +kernel, by decide +kernel⟩, List.mem_of_getElem? (i := 208) (by decide +kernel), List.mem_of_getElem? (i := 232) (by decide +kernel), List.mem_of_getElem? (i := 233) (by decide +kernel)⟩
theorem lw_p1 : lw_okq (⟨"FormatForge$Parser", "passTail", "(LFormatForge$Node;I)Z"⟩, 3) := ⟨⟨by decide +kernel, by decide +kernel⟩, List.mem_of_getElem? (i := 208) (by decide +kernel), List.mem_of_getElem? (i := 251) (by decide +kernel), List.mem_of_getElem? (i := 252) (by decide +kernel)⟩
theorem lw_p2 : lw_okq (⟨"FormatForge$Parser", "passFields", "(LFormatForge$Node;I)Z"⟩, 3) := ⟨⟨by decide +kernel, by decide +kernel⟩, List.mem_of_getElem? (i := 208) (by decide +kernel), List.mem_of_getElem? (i := 255) (by decide +kernel), List.mem_of_getElem? (i := 256) (by decide +kernel)⟩
theorem lw_p3 : lw_okq (⟨"FormatForge$Parser", "passSign", "(I)Z"⟩, 3) := ⟨⟨by decide +kernel, by decide +kernel⟩, List.mem_of_getElem? (i := 208) (by decide +kernel), List.mem_of_getElem? (i := 259) (by decide +kernel), List.mem_of_getElem? (i := 260) (by decide +kernel)⟩
theorem lw_p4 : lw_okq (⟨"FormatForge$Parser", "passField", "(LFormatForge$Node;I)Z"⟩, 3) := ⟨⟨by decide +kernel, by decide +kernel⟩, List.mem_of_getElem? (i := 208) (by decide +kernel), List.mem_of_getElem? (i := 263) (by decide +kernel), List.mem_of_getElem? (i := 264) (by decide +kernel)⟩
theorem lw_p5 : lw_okq (⟨"FormatForge$Parser", "passName", "()I"⟩, 3) := ⟨⟨by decide +kernel, by decide +kernel⟩, List.mem_of_getElem? (i := 208) (by decide +kernel), List.mem_of_getElem? (i := 267) (by decide +kernel), List.mem_of_getElem? (i := 268) (by decide +kernel)⟩
theorem lw_p6 : lw_okq (⟨"FormatForge$Parser", "passPart", "(LFormatForge$Node;II)LFormatForge$Node;"⟩, 3) := ⟨⟨by decide +kernel, by decide +kernel⟩, List.mem_of_getElem? (i := 208) (by decide +kernel), List.mem_of_getElem? (i := 271) (by decide +kernel), List.mem_of_getElem? (i := 272) (by decide +kernel)⟩
theorem lw_p7 : lw_okq (⟨"FormatForge$Parser", "passKey", "(LFormatForge$Node;)Z"⟩, 3) := ⟨⟨by decide +kernel, by decide +kernel⟩, List.mem_of_getElem? (i := 208) (by decide +kernel), List.mem_of_getElem? (i := 279) (by decide +kernel), List.mem_of_getElem? (i := 280) (by decide +kernel)⟩
theorem lw_p8 : lw_okq (⟨"FormatForge$Parser", "passCases", "(LFormatForge$Node;I)Z"⟩, 3) := ⟨⟨by decide +kernel, by decide +kernel⟩, List.mem_of_getElem? (i := 208) (by decide +kernel), List.mem_of_getElem? (i := 283) (by decide +kernel), List.mem_of_getElem? (i := 284) (by decide +kernel)⟩
theorem lw_p9 : lw_okq (⟨"FormatForge$Parser", "passCase", "(LFormatForge$Node;I)Z"⟩, 3) := ⟨⟨by decide +kernel, by decide +kernel⟩, List.mem_of_getElem? (i := 208) (by decide +kernel), List.mem_of_getElem? (i := 287) (by decide +kernel), List.mem_of_getElem? (i := 288) (by decide +kernel)⟩
theorem lw_p10 : lw_okq (⟨"FormatForge$Parser", "passFigure", "()I"⟩, 3) := ⟨⟨by decide +kernel, by decide +kernel⟩, List.mem_of_getElem? (i := 208) (by decide +kernel), List.mem_of_getElem? (i := 291) (by decide +kernel), List.mem_of_getElem? (i := 292) (by decide +kernel)⟩
theorem lw_p11 : lw_okq (⟨"FormatForge$Parser", "passWidth", "(LFormatForge$Node;I)Z"⟩, 3) := ⟨⟨by decide +kernel, by decide +kernel⟩, List.mem_of_getElem? (i := 208) (by decide +kernel), List.mem_of_getElem? (i := 298) (by decide +kernel), List.mem_of_getElem? (i := 299) (by decide +kernel)⟩
theorem lw_p12 : lw_okq (⟨"FormatForge$Parser", "passLimit", "(LFormatForge$Node;)Z"⟩, 3) := ⟨⟨by decide +kernel, by decide +kernel⟩, List.mem_of_getElem? (i := 208) (by decide +kernel), List.mem_of_getElem? (i := 311) (by decide +kernel), List.mem_of_getElem? (i := 312) (by decide +kernel)⟩
theorem lw_p13 : lw_okq (⟨"java/lang/Throwable", "fillInStackTrace", "(I)Ljava/lang/Throwable;"⟩, 6) := ⟨⟨by decide +kernel, by decide +kernel⟩, List.mem_of_getElem? (i := 377) (by decide +kernel), List.mem_of_getElem? (i := 375) (by decide +kernel), List.mem_of_getElem? (i := 376) (by decide +kernel)⟩
theorem lw_p14 : lw_okq (⟨"FormatForge", "demandCompiled", "()V"⟩, 10) := ⟨⟨by decide +kernel, by decide +kernel⟩, List.mem_of_getElem? (i := 22) (by decide +kernel), List.mem_of_getElem? (i := 581) (by decide +kernel), List.mem_of_getElem? (i := 582) (by decide +kernel)⟩
theorem lw_p15 : lw_okq (⟨"FormatForge$Reading", "nextBit", "()I"⟩, 5) := ⟨⟨by decide +kernel, by decide +kernel⟩, List.mem_of_getElem? (i := 589) (by decide +kernel), List.mem_of_getElem? (i := 641) (by decide +kernel), List.mem_of_getElem? (i := 642) (by decide +kernel)⟩
def lw_privs_1 : List (MethodName × Nat) := [(⟨"FormatForge$Parser", "passType", "(LFormatForge$Node;II)LFormatForge$Node;"⟩, 3), (⟨"FormatForge$Parser", "passTail", "(LFormatForge$Node;I)Z"⟩, 3), (⟨"FormatForge$Parser", "passFields", "(LFormatForge$Node;I)Z"⟩, 3), (⟨"FormatForge$Parser", "passSign", "(I)Z"⟩, 3), (⟨"FormatForge$Parser", "passField", "(LFormatForge$Node;I)Z"⟩, 3), (⟨"FormatForge$Parser", "passName", "()I"⟩, 3), (⟨"FormatForge$Parser", "passPart", "(LFormatForge$Node;II)LFormatForge$Node;"⟩, 3), (⟨"FormatForge$Parser", "passKey", "(LFormatForge$Node;)Z"⟩, 3), (⟨"FormatForge$Parser", "passCases", "(LFormatForge$Node;I)Z"⟩, 3), (⟨"FormatForge$Parser", "passCase", "(LFormatForge$Node;I)Z"⟩, 3), (⟨"FormatForge$Parser", "passFigure", "()I"⟩, 3), (⟨"FormatForge$Parser", "passWidth", "(LFormatForge$Node;I)Z"⟩, 3), (⟨"FormatForge$Parser", "passLimit", "(LFormatForge$Node;)Z"⟩, 3), (⟨"java/lang/Throwable", "fillInStackTrace", "(I)Ljava/lang/Throwable;"⟩, 6), (⟨"FormatForge", "demandCompiled", "()V"⟩, 10), (⟨"FormatForge$Reading", "nextBit", "()I"⟩, 5)]
theorem lw_r1 : ∀ q ∈ lw_privs_1, lw_okq q := List.forall_mem_cons.mpr ⟨lw_p0, List.forall_mem_cons.mpr ⟨lw_p1, List.forall_mem_cons.mpr ⟨lw_p2, List.forall_mem_cons.mpr ⟨lw_p3, List.forall_mem_cons.mpr ⟨lw_p4, List.forall_mem_cons.mpr ⟨lw_p5, List.forall_mem_cons.mpr ⟨lw_p6, List.forall_mem_cons.mpr ⟨lw_p7, List.forall_mem_cons.mpr ⟨lw_p8, List.forall_mem_cons.mpr ⟨lw_p9, List.forall_mem_cons.mpr ⟨lw_p10, List.forall_mem_cons.mpr ⟨lw_p11, List.forall_mem_cons.mpr ⟨lw_p12, List.forall_mem_cons.mpr ⟨lw_p13, List.forall_mem_cons.mpr ⟨lw_p14, List.forall_mem_cons.mpr ⟨lw_p15, fun _ h => absurd h List.not_mem_nil⟩⟩⟩⟩⟩⟩⟩⟩⟩⟩⟩⟩⟩⟩⟩⟩
theorem lw_p16 : lw_okq (⟨"FormatForge$Reading", "keep", "(LFormatForge$Node;J)I"⟩, 5) := ⟨⟨by decide +kernel, by decide +kernel⟩, List.mem_of_getElem? (i := 589) (by decide +kernel), List.mem_of_getElem? (i := 682) (by decide +kernel), List.mem_of_getElem? (i := 683) (by decide +kernel)⟩
theorem lw_p17 : lw_okq (⟨"FormatForge$Writing", "takeFor", "(LFormatForge$Node;)I"⟩, 7) := ⟨⟨by decide +kernel, by decide +kernel⟩, List.mem_of_getElem? (i := 696) (by decide +kernel), List.mem_of_getElem? (i := 694) (by decide +kernel), List.mem_of_getElem? (i := 695) (by decide +kernel)⟩
theorem lw_p18 : lw_okq (⟨"FormatForge$Writing", "take", "(JJ)I"⟩, 7) := ⟨⟨by decide +kernel, by decide +kernel⟩, List.mem_of_getElem? (i := 696) (by decide +kernel), List.mem_of_getElem? (i := 699) (by decide +kernel), List.mem_of_getElem? (i := 700) (by decide +kernel)⟩
theorem lw_p19 : lw_okq (⟨"FormatForge$Writing", "makeBit", "(I)I"⟩, 7) := ⟨⟨by decide +kernel, by decide +kernel⟩, List.mem_of_getElem? (i := 696) (by decide +kernel), List.mem_of_getElem? (i := 707) (by decide +kernel), List.mem_of_getElem? (i := 708) (by decide +kernel)⟩
theorem lw_p20 : lw_okq (⟨"FormatForge$Reading", "keepBytes", "(II)I"⟩, 5) := ⟨⟨by decide +kernel, by decide +kernel⟩, List.mem_of_getElem? (i := 589) (by decide +kernel), List.mem_of_getElem? (i := 725) (by decide +kernel), List.mem_of_getElem? (i := 726) (by decide +kernel)⟩
theorem lw_p21 : lw_okq (⟨"FormatForge$Writing", "makeBytes", "(II)I"⟩, 7) := ⟨⟨by decide +kernel, by decide +kernel⟩, List.mem_of_getElem? (i := 696) (by decide +kernel), List.mem_of_getElem? (i := 733) (by decide +kernel), List.mem_of_getElem? (i := 734) (by decide +kernel)⟩
theorem lw_p22 : lw_okq (⟨"FormatForge$Writing", "make", "(I)I"⟩, 7) := ⟨⟨by decide +kernel, by decide +kernel⟩, List.mem_of_getElem? (i := 696) (by decide +kernel), List.mem_of_getElem? (i := 738) (by decide +kernel), List.mem_of_getElem? (i := 739) (by decide +kernel)⟩
theorem lw_p23 : lw_okq (⟨"FormatForge", "demandFine", "(LFormatForge$Course;I)V"⟩, 10) := ⟨⟨by decide +kernel, by decide +kernel⟩, List.mem_of_getElem? (i := 22) (by decide +kernel), List.mem_of_getElem? (i := 763) (by decide +kernel), List.mem_of_getElem? (i := 764) (by decide +kernel)⟩
theorem lw_p24 : lw_okq (⟨"FormatForge", "demandValue", "(I)V"⟩, 10) := ⟨⟨by decide +kernel, by decide +kernel⟩, List.mem_of_getElem? (i := 22) (by decide +kernel), List.mem_of_getElem? (i := 842) (by decide +kernel), List.mem_of_getElem? (i := 843) (by decide +kernel)⟩
theorem lw_p25 : lw_okq (⟨"FormatForgeModel", "fail", "(I)I"⟩, 49) := ⟨⟨by decide +kernel, by decide +kernel⟩, List.mem_of_getElem? (i := 907) (by decide +kernel), List.mem_of_getElem? (i := 1070) (by decide +kernel), List.mem_of_getElem? (i := 1071) (by decide +kernel)⟩
theorem lw_p26 : lw_okq (⟨"FormatForgeModel", "scan", "(Z)I"⟩, 49) := ⟨⟨by decide +kernel, by decide +kernel⟩, List.mem_of_getElem? (i := 907) (by decide +kernel), List.mem_of_getElem? (i := 1082) (by decide +kernel), List.mem_of_getElem? (i := 1083) (by decide +kernel)⟩
theorem lw_p27 : lw_okq (⟨"FormatForgeModel", "sign", "(I)Z"⟩, 49) := ⟨⟨by decide +kernel, by decide +kernel⟩, List.mem_of_getElem? (i := 907) (by decide +kernel), List.mem_of_getElem? (i := 1086) (by decide +kernel), List.mem_of_getElem? (i := 1087) (by decide +kernel)⟩
theorem lw_p28 : lw_okq (⟨"FormatForgeModel", "beginType", "(I)Z"⟩, 49) := ⟨⟨by decide +kernel, by decide +kernel⟩, List.mem_of_getElem? (i := 907) (by decide +kernel), List.mem_of_getElem? (i := 1090) (by decide +kernel), List.mem_of_getElem? (i := 1091) (by decide +kernel)⟩
theorem lw_p29 : lw_okq (⟨"FormatForgeModel", "sized", "(I)Z"⟩, 49) := ⟨⟨by decide +kernel, by decide +kernel⟩, List.mem_of_getElem? (i := 907) (by decide +kernel), List.mem_of_getElem? (i := 1094) (by decide +kernel), List.mem_of_getElem? (i := 1095) (by decide +kernel)⟩
theorem lw_p30 : lw_okq (⟨"FormatForgeModel", "hang", "(II)V"⟩, 49) := ⟨⟨by decide +kernel, by decide +kernel⟩, List.mem_of_getElem? (i := 907) (by decide +kernel), List.mem_of_getElem? (i := 1098) (by decide +kernel), List.mem_of_getElem? (i := 1099) (by decide +kernel)⟩
theorem lw_p31 : lw_okq (⟨"FormatForgeModel", "finish", "()V"⟩, 49) := ⟨⟨by decide +kernel, by decide +kernel⟩, List.mem_of_getElem? (i := 907) (by decide +kernel), List.mem_of_getElem? (i := 1102) (by decide +kernel), List.mem_of_getElem? (i := 1103) (by decide +kernel)⟩
def lw_privs_2 : List (MethodName × Nat) := [(⟨"FormatForge$Reading", "keep", "(LFormatForge$Node;J)I"⟩, 5), (⟨"FormatForge$Writing", "takeFor", "(LFormatForge$Node;)I"⟩, 7), (⟨"FormatForge$Writing", "take", "(JJ)I"⟩, 7), (⟨"FormatForge$Writing", "makeBit", "(I)I"⟩, 7), (⟨"FormatForge$Reading", "keepBytes", "(II)I"⟩, 5), (⟨"FormatForge$Writing", "makeBytes", "(II)I"⟩, 7), (⟨"FormatForge$Writing", "make", "(I)I"⟩, 7), (⟨"FormatForge", "demandFine", "(LFormatForge$Course;I)V"⟩, 10), (⟨"FormatForge", "demandValue", "(I)V"⟩, 10), (⟨"FormatForgeModel", "fail", "(I)I"⟩, 49), (⟨"FormatForgeModel", "scan", "(Z)I"⟩, 49), (⟨"FormatForgeModel", "sign", "(I)Z"⟩, 49), (⟨"FormatForgeModel", "beginType", "(I)Z"⟩, 49), (⟨"FormatForgeModel", "sized", "(I)Z"⟩, 49), (⟨"FormatForgeModel", "hang", "(II)V"⟩, 49), (⟨"FormatForgeModel", "finish", "()V"⟩, 49)]
theorem lw_r2 : ∀ q ∈ lw_privs_2, lw_okq q := List.forall_mem_cons.mpr ⟨lw_p16, List.forall_mem_cons.mpr ⟨lw_p17, List.forall_mem_cons.mpr ⟨lw_p18, List.forall_mem_cons.mpr ⟨lw_p19, List.forall_mem_cons.mpr ⟨lw_p20, List.forall_mem_cons.mpr ⟨lw_p21, List.forall_mem_cons.mpr ⟨lw_p22, List.forall_mem_cons.mpr ⟨lw_p23, List.forall_mem_cons.mpr ⟨lw_p24, List.forall_mem_cons.mpr ⟨lw_p25, List.forall_mem_cons.mpr ⟨lw_p26, List.forall_mem_cons.mpr ⟨lw_p27, List.forall_mem_cons.mpr ⟨lw_p28, List.forall_mem_cons.mpr ⟨lw_p29, List.forall_mem_cons.mpr ⟨lw_p30, List.forall_mem_cons.mpr ⟨lw_p31, fun _ h => absurd h List.not_mem_nil⟩⟩⟩⟩⟩⟩⟩⟩⟩⟩⟩⟩⟩⟩⟩⟩
theorem lw_p32 : lw_okq (⟨"FormatForgeModel", "inSized", "(I)I"⟩, 49) := ⟨⟨by decide +kernel, by decide +kernel⟩, List.mem_of_getElem? (i := 907) (by decide +kernel), List.mem_of_getElem? (i := 1106) (by decide +kernel), List.mem_of_getElem? (i := 1107) (by decide +kernel)⟩
theorem lw_p33 : lw_okq (⟨"FormatForgeModel", "isDigit", "(I)Z"⟩, 49) := ⟨⟨by decide +kernel, by decide +kernel⟩, List.mem_of_getElem? (i := 907) (by decide +kernel), List.mem_of_getElem? (i := 1110) (by decide +kernel), List.mem_of_getElem? (i := 1111) (by decide +kernel)⟩
theorem lw_p34 : lw_okq (⟨"FormatForgeModel", "inStructure", "(I)Z"⟩, 49) := ⟨⟨by decide +kernel, by decide +kernel⟩, List.mem_of_getElem? (i := 907) (by decide +kernel), List.mem_of_getElem? (i := 1114) (by decide +kernel), List.mem_of_getElem? (i := 1115) (by decide +kernel)⟩
theorem lw_p35 : lw_okq (⟨"FormatForgeModel", "isName", "(I)Z"⟩, 49) := ⟨⟨by decide +kernel, by decide +kernel⟩, List.mem_of_getElem? (i := 907) (by decide +kernel), List.mem_of_getElem? (i := 1118) (by decide +kernel), List.mem_of_getElem? (i := 1119) (by decide +kernel)⟩
theorem lw_p36 : lw_okq (⟨"FormatForgeModel", "inChoice", "(I)Z"⟩, 49) := ⟨⟨by decide +kernel, by decide +kernel⟩, List.mem_of_getElem? (i := 907) (by decide +kernel), List.mem_of_getElem? (i := 1122) (by decide +kernel), List.mem_of_getElem? (i := 1123) (by decide +kernel)⟩
theorem lw_p37 : lw_okq (⟨"FormatForgeModel", "inMany", "(I)Z"⟩, 49) := ⟨⟨by decide +kernel, by decide +kernel⟩, List.mem_of_getElem? (i := 907) (by decide +kernel), List.mem_of_getElem? (i := 1126) (by decide +kernel), List.mem_of_getElem? (i := 1127) (by decide +kernel)⟩
theorem lw_p38 : lw_okq (⟨"FormatForgeModel", "wholeNow", "()Z"⟩, 49) := ⟨⟨by decide +kernel, by decide +kernel⟩, List.mem_of_getElem? (i := 907) (by decide +kernel), List.mem_of_getElem? (i := 1130) (by decide +kernel), List.mem_of_getElem? (i := 1131) (by decide +kernel)⟩
theorem lw_p39 : lw_okq (⟨"FormatForgeModel", "soundAll", "()Z"⟩, 49) := ⟨⟨by decide +kernel, by decide +kernel⟩, List.mem_of_getElem? (i := 907) (by decide +kernel), List.mem_of_getElem? (i := 1138) (by decide +kernel), List.mem_of_getElem? (i := 1139) (by decide +kernel)⟩
theorem lw_p40 : lw_okq (⟨"FormatForgeModel", "interval", "(I)V"⟩, 49) := ⟨⟨by decide +kernel, by decide +kernel⟩, List.mem_of_getElem? (i := 907) (by decide +kernel), List.mem_of_getElem? (i := 1142) (by decide +kernel), List.mem_of_getElem? (i := 1143) (by decide +kernel)⟩
theorem lw_p41 : lw_okq (⟨"FormatForgeModel", "find", "(I)I"⟩, 49) := ⟨⟨by decide +kernel, by decide +kernel⟩, List.mem_of_getElem? (i := 907) (by decide +kernel), List.mem_of_getElem? (i := 1147) (by decide +kernel), List.mem_of_getElem? (i := 1148) (by decide +kernel)⟩
theorem lw_p42 : lw_okq (⟨"FormatForgeModel", "measure", "(I)V"⟩, 49) := ⟨⟨by decide +kernel, by decide +kernel⟩, List.mem_of_getElem? (i := 907) (by decide +kernel), List.mem_of_getElem? (i := 1151) (by decide +kernel), List.mem_of_getElem? (i := 1152) (by decide +kernel)⟩
theorem lw_p43 : lw_okq (⟨"FormatForgeModel", "sumFields", "(I)V"⟩, 49) := ⟨⟨by decide +kernel, by decide +kernel⟩, List.mem_of_getElem? (i := 907) (by decide +kernel), List.mem_of_getElem? (i := 1159) (by decide +kernel), List.mem_of_getElem? (i := 1160) (by decide +kernel)⟩
theorem lw_p44 : lw_okq (⟨"FormatForgeModel", "capped", "(J)J"⟩, 49) := ⟨⟨by decide +kernel, by decide +kernel⟩, List.mem_of_getElem? (i := 907) (by decide +kernel), List.mem_of_getElem? (i := 1163) (by decide +kernel), List.mem_of_getElem? (i := 1164) (by decide +kernel)⟩
theorem lw_p45 : lw_okq (⟨"FormatForgeModel", "soundNode", "(I)Z"⟩, 49) := ⟨⟨by decide +kernel, by decide +kernel⟩, List.mem_of_getElem? (i := 907) (by decide +kernel), List.mem_of_getElem? (i := 1168) (by decide +kernel), List.mem_of_getElem? (i := 1169) (by decide +kernel)⟩
theorem lw_p46 : lw_okq (⟨"FormatForgeModel", "goodCases", "(I)Z"⟩, 49) := ⟨⟨by decide +kernel, by decide +kernel⟩, List.mem_of_getElem? (i := 907) (by decide +kernel), List.mem_of_getElem? (i := 1173) (by decide +kernel), List.mem_of_getElem? (i := 1174) (by decide +kernel)⟩
theorem lw_p47 : lw_okq (⟨"FormatForgeModel", "restore", "()V"⟩, 49) := ⟨⟨by decide +kernel, by decide +kernel⟩, List.mem_of_getElem? (i := 907) (by decide +kernel), List.mem_of_getElem? (i := 1181) (by decide +kernel), List.mem_of_getElem? (i := 1182) (by decide +kernel)⟩
def lw_privs_3 : List (MethodName × Nat) := [(⟨"FormatForgeModel", "inSized", "(I)I"⟩, 49), (⟨"FormatForgeModel", "isDigit", "(I)Z"⟩, 49), (⟨"FormatForgeModel", "inStructure", "(I)Z"⟩, 49), (⟨"FormatForgeModel", "isName", "(I)Z"⟩, 49), (⟨"FormatForgeModel", "inChoice", "(I)Z"⟩, 49), (⟨"FormatForgeModel", "inMany", "(I)Z"⟩, 49), (⟨"FormatForgeModel", "wholeNow", "()Z"⟩, 49), (⟨"FormatForgeModel", "soundAll", "()Z"⟩, 49), (⟨"FormatForgeModel", "interval", "(I)V"⟩, 49), (⟨"FormatForgeModel", "find", "(I)I"⟩, 49), (⟨"FormatForgeModel", "measure", "(I)V"⟩, 49), (⟨"FormatForgeModel", "sumFields", "(I)V"⟩, 49), (⟨"FormatForgeModel", "capped", "(J)J"⟩, 49), (⟨"FormatForgeModel", "soundNode", "(I)Z"⟩, 49), (⟨"FormatForgeModel", "goodCases", "(I)Z"⟩, 49), (⟨"FormatForgeModel", "restore", "()V"⟩, 49)]
theorem lw_r3 : ∀ q ∈ lw_privs_3, lw_okq q := List.forall_mem_cons.mpr ⟨lw_p32, List.forall_mem_cons.mpr ⟨lw_p33, List.forall_mem_cons.mpr ⟨lw_p34, List.forall_mem_cons.mpr ⟨lw_p35, List.forall_mem_cons.mpr ⟨lw_p36, List.forall_mem_cons.mpr ⟨lw_p37, List.forall_mem_cons.mpr ⟨lw_p38, List.forall_mem_cons.mpr ⟨lw_p39, List.forall_mem_cons.mpr ⟨lw_p40, List.forall_mem_cons.mpr ⟨lw_p41, List.forall_mem_cons.mpr ⟨lw_p42, List.forall_mem_cons.mpr ⟨lw_p43, List.forall_mem_cons.mpr ⟨lw_p44, List.forall_mem_cons.mpr ⟨lw_p45, List.forall_mem_cons.mpr ⟨lw_p46, List.forall_mem_cons.mpr ⟨lw_p47, fun _ h => absurd h List.not_mem_nil⟩⟩⟩⟩⟩⟩⟩⟩⟩⟩⟩⟩⟩⟩⟩⟩
theorem lw_p48 : lw_okq (⟨"FormatForgeModel", "pass", "(Z)V"⟩, 49) := ⟨⟨by decide +kernel, by decide +kernel⟩, List.mem_of_getElem? (i := 907) (by decide +kernel), List.mem_of_getElem? (i := 1197) (by decide +kernel), List.mem_of_getElem? (i := 1198) (by decide +kernel)⟩
theorem lw_p49 : lw_okq (⟨"FormatForgeModel", "enter", "(I)V"⟩, 49) := ⟨⟨by decide +kernel, by decide +kernel⟩, List.mem_of_getElem? (i := 907) (by decide +kernel), List.mem_of_getElem? (i := 1201) (by decide +kernel), List.mem_of_getElem? (i := 1202) (by decide +kernel)⟩
theorem lw_p50 : lw_okq (⟨"FormatForgeModel", "unit", "(I)V"⟩, 49) := ⟨⟨by decide +kernel, by decide +kernel⟩, List.mem_of_getElem? (i := 907) (by decide +kernel), List.mem_of_getElem? (i := 1205) (by decide +kernel), List.mem_of_getElem? (i := 1206) (by decide +kernel)⟩
theorem lw_p51 : lw_okq (⟨"FormatForgeModel", "rest", "()V"⟩, 49) := ⟨⟨by decide +kernel, by decide +kernel⟩, List.mem_of_getElem? (i := 907) (by decide +kernel), List.mem_of_getElem? (i := 1209) (by decide +kernel), List.mem_of_getElem? (i := 1210) (by decide +kernel)⟩
theorem lw_p52 : lw_okq (⟨"FormatForgeModel", "wrong", "(Z)V"⟩, 49) := ⟨⟨by decide +kernel, by decide +kernel⟩, List.mem_of_getElem? (i := 907) (by decide +kernel), List.mem_of_getElem? (i := 1213) (by decide +kernel), List.mem_of_getElem? (i := 1214) (by decide +kernel)⟩
theorem lw_p53 : lw_okq (⟨"FormatForgeModel", "nameAround", "(I)I"⟩, 49) := ⟨⟨by decide +kernel, by decide +kernel⟩, List.mem_of_getElem? (i := 907) (by decide +kernel), List.mem_of_getElem? (i := 1217) (by decide +kernel), List.mem_of_getElem? (i := 1218) (by decide +kernel)⟩
theorem lw_p54 : lw_okq (⟨"FormatForgeModel", "sizedUnit", "(I)V"⟩, 49) := ⟨⟨by decide +kernel, by decide +kernel⟩, List.mem_of_getElem? (i := 907) (by decide +kernel), List.mem_of_getElem? (i := 1221) (by decide +kernel), List.mem_of_getElem? (i := 1222) (by decide +kernel)⟩
theorem lw_p55 : lw_okq (⟨"FormatForgeModel", "take", "()J"⟩, 49) := ⟨⟨by decide +kernel, by decide +kernel⟩, List.mem_of_getElem? (i := 907) (by decide +kernel), List.mem_of_getElem? (i := 1225) (by decide +kernel), List.mem_of_getElem? (i := 1226) (by decide +kernel)⟩
theorem lw_p56 : lw_okq (⟨"FormatForgeModel", "writeBits", "(JI)V"⟩, 49) := ⟨⟨by decide +kernel, by decide +kernel⟩, List.mem_of_getElem? (i := 907) (by decide +kernel), List.mem_of_getElem? (i := 1229) (by decide +kernel), List.mem_of_getElem? (i := 1230) (by decide +kernel)⟩
theorem lw_p57 : lw_okq (⟨"FormatForgeModel", "putByte", "(I)V"⟩, 49) := ⟨⟨by decide +kernel, by decide +kernel⟩, List.mem_of_getElem? (i := 907) (by decide +kernel), List.mem_of_getElem? (i := 1233) (by decide +kernel), List.mem_of_getElem? (i := 1234) (by decide +kernel)⟩
theorem lw_p58 : lw_okq (⟨"FormatForgeModel", "writeNumber", "(IJ)V"⟩, 49) := ⟨⟨by decide +kernel, by decide +kernel⟩, List.mem_of_getElem? (i := 907) (by decide +kernel), List.mem_of_getElem? (i := 1237) (by decide +kernel), List.mem_of_getElem? (i := 1238) (by decide +kernel)⟩
theorem lw_p59 : lw_okq (⟨"FormatForgeModel", "readBits", "(I)J"⟩, 49) := ⟨⟨by decide +kernel, by decide +kernel⟩, List.mem_of_getElem? (i := 907) (by decide +kernel), List.mem_of_getElem? (i := 1241) (by decide +kernel), List.mem_of_getElem? (i := 1242) (by decide +kernel)⟩
theorem lw_p60 : lw_okq (⟨"FormatForgeModel", "nextByte", "()I"⟩, 49) := ⟨⟨by decide +kernel, by decide +kernel⟩, List.mem_of_getElem? (i := 907) (by decide +kernel), List.mem_of_getElem? (i := 1245) (by decide +kernel), List.mem_of_getElem? (i := 1246) (by decide +kernel)⟩
theorem lw_p61 : lw_okq (⟨"FormatForgeModel", "readNumber", "(I)J"⟩, 49) := ⟨⟨by decide +kernel, by decide +kernel⟩, List.mem_of_getElem? (i := 907) (by decide +kernel), List.mem_of_getElem? (i := 1249) (by decide +kernel), List.mem_of_getElem? (i := 1250) (by decide +kernel)⟩
theorem lw_p62 : lw_okq (⟨"FormatForgeModel", "give", "(J)V"⟩, 49) := ⟨⟨by decide +kernel, by decide +kernel⟩, List.mem_of_getElem? (i := 907) (by decide +kernel), List.mem_of_getElem? (i := 1253) (by decide +kernel), List.mem_of_getElem? (i := 1254) (by decide +kernel)⟩
theorem lw_p63 : lw_okq (⟨"FormatForgeModel", "floating", "(I)V"⟩, 49) := ⟨⟨by decide +kernel, by decide +kernel⟩, List.mem_of_getElem? (i := 907) (by decide +kernel), List.mem_of_getElem? (i := 1257) (by decide +kernel), List.mem_of_getElem? (i := 1258) (by decide +kernel)⟩
def lw_privs_4 : List (MethodName × Nat) := [(⟨"FormatForgeModel", "pass", "(Z)V"⟩, 49), (⟨"FormatForgeModel", "enter", "(I)V"⟩, 49), (⟨"FormatForgeModel", "unit", "(I)V"⟩, 49), (⟨"FormatForgeModel", "rest", "()V"⟩, 49), (⟨"FormatForgeModel", "wrong", "(Z)V"⟩, 49), (⟨"FormatForgeModel", "nameAround", "(I)I"⟩, 49), (⟨"FormatForgeModel", "sizedUnit", "(I)V"⟩, 49), (⟨"FormatForgeModel", "take", "()J"⟩, 49), (⟨"FormatForgeModel", "writeBits", "(JI)V"⟩, 49), (⟨"FormatForgeModel", "putByte", "(I)V"⟩, 49), (⟨"FormatForgeModel", "writeNumber", "(IJ)V"⟩, 49), (⟨"FormatForgeModel", "readBits", "(I)J"⟩, 49), (⟨"FormatForgeModel", "nextByte", "()I"⟩, 49), (⟨"FormatForgeModel", "readNumber", "(I)J"⟩, 49), (⟨"FormatForgeModel", "give", "(J)V"⟩, 49), (⟨"FormatForgeModel", "floating", "(I)V"⟩, 49)]
theorem lw_r4 : ∀ q ∈ lw_privs_4, lw_okq q := List.forall_mem_cons.mpr ⟨lw_p48, List.forall_mem_cons.mpr ⟨lw_p49, List.forall_mem_cons.mpr ⟨lw_p50, List.forall_mem_cons.mpr ⟨lw_p51, List.forall_mem_cons.mpr ⟨lw_p52, List.forall_mem_cons.mpr ⟨lw_p53, List.forall_mem_cons.mpr ⟨lw_p54, List.forall_mem_cons.mpr ⟨lw_p55, List.forall_mem_cons.mpr ⟨lw_p56, List.forall_mem_cons.mpr ⟨lw_p57, List.forall_mem_cons.mpr ⟨lw_p58, List.forall_mem_cons.mpr ⟨lw_p59, List.forall_mem_cons.mpr ⟨lw_p60, List.forall_mem_cons.mpr ⟨lw_p61, List.forall_mem_cons.mpr ⟨lw_p62, List.forall_mem_cons.mpr ⟨lw_p63, fun _ h => absurd h List.not_mem_nil⟩⟩⟩⟩⟩⟩⟩⟩⟩⟩⟩⟩⟩⟩⟩⟩
theorem lw_p64 : lw_okq (⟨"FormatForgeModel", "writeWords", "(Z)V"⟩, 49) := ⟨⟨by decide +kernel, by decide +kernel⟩, List.mem_of_getElem? (i := 907) (by decide +kernel), List.mem_of_getElem? (i := 1261) (by decide +kernel), List.mem_of_getElem? (i := 1262) (by decide +kernel)⟩
theorem lw_p65 : lw_okq (⟨"FormatForgeModel", "words", "(Z)V"⟩, 49) := ⟨⟨by decide +kernel, by decide +kernel⟩, List.mem_of_getElem? (i := 907) (by decide +kernel), List.mem_of_getElem? (i := 1267) (by decide +kernel), List.mem_of_getElem? (i := 1268) (by decide +kernel)⟩
theorem lw_p66 : lw_okq (⟨"FormatForgeModel", "goOn", "()V"⟩, 49) := ⟨⟨by decide +kernel, by decide +kernel⟩, List.mem_of_getElem? (i := 907) (by decide +kernel), List.mem_of_getElem? (i := 1271) (by decide +kernel), List.mem_of_getElem? (i := 1272) (by decide +kernel)⟩
theorem lw_p67 : lw_okq (⟨"FormatForgeModel", "out", "(II)Z"⟩, 49) := ⟨⟨by decide +kernel, by decide +kernel⟩, List.mem_of_getElem? (i := 907) (by decide +kernel), List.mem_of_getElem? (i := 1283) (by decide +kernel), List.mem_of_getElem? (i := 1284) (by decide +kernel)⟩
def lw_privs_5 : List (MethodName × Nat) := [(⟨"FormatForgeModel", "writeWords", "(Z)V"⟩, 49), (⟨"FormatForgeModel", "words", "(Z)V"⟩, 49), (⟨"FormatForgeModel", "goOn", "()V"⟩, 49), (⟨"FormatForgeModel", "out", "(II)Z"⟩, 49)]
theorem lw_r5 : ∀ q ∈ lw_privs_5, lw_okq q := List.forall_mem_cons.mpr ⟨lw_p64, List.forall_mem_cons.mpr ⟨lw_p65, List.forall_mem_cons.mpr ⟨lw_p66, List.forall_mem_cons.mpr ⟨lw_p67, fun _ h => absurd h List.not_mem_nil⟩⟩⟩⟩
def lw_privs : List (MethodName × Nat) := lw_privs_1 ++ (lw_privs_2 ++ (lw_privs_3 ++ (lw_privs_4 ++ (lw_privs_5))))
def lw_tbl : List Cond := k2_sels lw_privs ++ tables_1
theorem lw_privs_ok : ∀ q ∈ lw_privs, lw_okq q := by
  show ∀ q ∈ lw_privs_1 ++ (lw_privs_2 ++ (lw_privs_3 ++ (lw_privs_4 ++ (lw_privs_5)))), lw_okq q
  exact List.forall_mem_append.mpr ⟨lw_r1, List.forall_mem_append.mpr ⟨lw_r2, List.forall_mem_append.mpr ⟨lw_r3, List.forall_mem_append.mpr ⟨lw_r4, lw_r5⟩⟩⟩⟩
end
section
/-! An interpreter of my own for the part of the machine that this program uses: what a method computes, as a function. -/
abbrev Lc : Type := List (Option Value)
/-- the heap: ints, longs, references, doubles by address and place; class and length by address; the next address; slots made -/
abbrev Hp : Type := (Nat → Nat → Int32) × (Nat → Nat → Int64) × (Nat → Nat → Nat) × (Nat → Nat → UInt64) × (Nat → Nat × Nat) × Nat × Nat
/-- how a call ends: with a value or none, or with what is thrown -/
abbrev Rs : Type := Option Value ⊕ Nat
/-- a method: its class, name, code, how many locals, what it returns, is it a constructor, its handlers -/
abbrev Mr : Type := Nat × MethodName × ByteArray × Nat × Option FieldType × Bool × List (Nat × Nat × Nat × Nat)
def mC (m : Mr) : Nat := m.1
def mY (m : Mr) : MethodName := m.2.1
def mB (m : Mr) : ByteArray := m.2.2.1
def mL (m : Mr) : Nat := m.2.2.2.1
def mR (m : Mr) : Option FieldType := m.2.2.2.2.1
def mI (m : Mr) : Bool := m.2.2.2.2.2.1
def mH (m : Mr) : List (Nat × Nat × Nat × Nat) := m.2.2.2.2.2.2
def hI (h : Hp) (a j : Nat) : Int32 := h.1 a j
def hL (h : Hp) (a j : Nat) : Int64 := h.2.1 a j
def hR (h : Hp) (a j : Nat) : Nat := h.2.2.1 a j
def hD (h : Hp) (a j : Nat) : UInt64 := h.2.2.2.1 a j
def hS (h : Hp) (a : Nat) : Nat × Nat := h.2.2.2.2.1 a
def hN (h : Hp) : Nat := h.2.2.2.2.2.1
def hU (h : Hp) : Nat := h.2.2.2.2.2.2
def up2 {α : Type} (f : Nat → Nat → α) (a j : Nat) (v : α) : Nat → Nat → α := fun b k => if b = a ∧ k = j then v else f b k
def sI (h : Hp) (a j : Nat) (v : Int32) : Hp := (up2 h.1 a j v, h.2)
def sL (h : Hp) (a j : Nat) (v : Int64) : Hp := (h.1, up2 h.2.1 a j v, h.2.2)
def sR (h : Hp) (a j : Nat) (v : Nat) : Hp := (h.1, h.2.1, up2 h.2.2.1 a j v, h.2.2.2)
def sD (h : Hp) (a j : Nat) (v : UInt64) : Hp := (h.1, h.2.1, h.2.2.1, up2 h.2.2.2.1 a j v, h.2.2.2.2)
def clr {α : Type} (f : Nat → Nat → α) (a : Nat) (v : α) : Nat → Nat → α := fun b k => if b = a then v else f b k
/-- a new cell of class k, length len, that takes n slots -/
def hNew (h : Hp) (k len n : Nat) : Hp := (clr h.1 (hN h) 0, clr h.2.1 (hN h) 0, clr h.2.2.1 (hN h) 0, clr h.2.2.2.1 (hN h) 0, (fun b => if b = hN h then (k, len) else h.2.2.2.2.1 b), hN h + 1, hU h + n)
/-- copying within the ints (longs): n places from place i of a to place j of b -/
def cpy {α : Type} (f : Nat → Nat → α) (a i b j n : Nat) : Nat → Nat → α := fun c k => if c = b ∧ j ≤ k ∧ k < j + n then f a (i + (k - j)) else f c k
def cI (h : Hp) (a i b j n : Nat) : Hp := (cpy h.1 a i b j n, h.2)
def cL (h : Hp) (a i b j n : Nat) : Hp := (h.1, cpy h.2.1 a i b j n, h.2.2)
def capN : Nat := 601000
def capU : Nat := 7293000
/-! locals -/
def is2 (o : Option Value) : Bool := match o with | some (.long _) => true | some (.double _) => true | _ => false
/-- the slot before a store: a long that it cut in two is gone -/
def cut2 (l : Lc) (i : Nat) : Lc := match i with | 0 => l | k + 1 => if is2 (l.getD k none) then l.set k none else l
def st1 (l : Lc) (i : Nat) (v : Value) : Lc := (cut2 l i).set i (some v)
def st2 (l : Lc) (i : Nat) (v : Value) : Lc := ((cut2 l i).set i (some v)).set (i + 1) none
abbrev Nx : Type := Nat × Lc × List Value
def ldI (l : Lc) (i pc : Nat) (st : List Value) : Option Nx := match l[i]? with | some (some (.int x)) => some (pc, l, .int x :: st) | _ => none
def ldL (l : Lc) (i pc : Nat) (st : List Value) : Option Nx := match l[i]? with | some (some (.long x)) => some (pc, l, .long x :: st) | _ => none
def ldD (l : Lc) (i pc : Nat) (st : List Value) : Option Nx := match l[i]? with | some (some (.double x)) => some (pc, l, .double x :: st) | _ => none
def ldA (l : Lc) (i pc : Nat) (st : List Value) : Option Nx := match l[i]? with | some (some (.ref x)) => some (pc, l, .ref x :: st) | _ => none
def tI (l : Lc) (i pc : Nat) (st : List Value) : Option Nx := match st with | .int x :: r => if i < l.length then some (pc, st1 l i (.int x), r) else none | _ => none
def tA (l : Lc) (i pc : Nat) (st : List Value) : Option Nx := match st with | .ref x :: r => if i < l.length then some (pc, st1 l i (.ref x), r) else none | _ => none
def tL (l : Lc) (i pc : Nat) (st : List Value) : Option Nx := match st with | .long x :: r => if i + 1 < l.length then some (pc, st2 l i (.long x), r) else none | _ => none
def tD (l : Lc) (i pc : Nat) (st : List Value) : Option Nx := match st with | .double x :: r => if i + 1 < l.length then some (pc, st2 l i (.double x), r) else none | _ => none
def oII (f : Int32 → Int32 → Int32) (l : Lc) (pc : Nat) (st : List Value) : Option Nx := match st with | .int y :: .int x :: r => some (pc, l, .int (f x y) :: r) | _ => none
def oLL (f : Int64 → Int64 → Int64) (l : Lc) (pc : Nat) (st : List Value) : Option Nx := match st with | .long y :: .long x :: r => some (pc, l, .long (f x y) :: r) | _ => none
def oLI (f : Int64 → Int32 → Int64) (l : Lc) (pc : Nat) (st : List Value) : Option Nx := match st with | .int y :: .long x :: r => some (pc, l, .long (f x y) :: r) | _ => none
def tgt (pc : Nat) (off : Int) : Nat := ((pc : Int) + off).toNat
/-- a jump by off is one within the code -/
def okt (pc : Nat) (off : Int) : Bool := decide (0 ≤ (pc : Int) + off)
def bI (c : Int32 → Bool) (off : Int) (l : Lc) (pc : Nat) (st : List Value) : Option Nx := match st with | .int x :: r => if okt pc off then some (if c x then tgt pc off else pc + 3, l, r) else none | _ => none
def bII (c : Int32 → Int32 → Bool) (off : Int) (l : Lc) (pc : Nat) (st : List Value) : Option Nx := match st with | .int y :: .int x :: r => if okt pc off then some (if c x y then tgt pc off else pc + 3, l, r) else none | _ => none
def cnd1 (c : ClassFile.Cond) (x : Int32) : Bool := match c with | .eq => decide (x = 0) | .ne => decide (¬ x = 0) | .lt => decide (x < 0) | .ge => decide (0 ≤ x) | .gt => decide (0 < x) | .le => decide (x ≤ 0)
def cnd2 (c : ClassFile.Cond) (x y : Int32) : Bool := match c with | .eq => decide (x = y) | .ne => decide (¬ x = y) | .lt => decide (x < y) | .ge => decide (y ≤ x) | .gt => decide (y < x) | .le => decide (x ≤ y)
/-- a switch by pairs -/
def swi (x : Int) (d : Int) (ps : List (Int × Int)) : Int := match ps with | [] => d | p :: r => if x = p.1 then p.2 else swi x d r
/-- what needs neither heap nor tables -/
def pS (i : Instr) (n pc : Nat) (l : Lc) (st : List Value) : Option Nx := match i with
  | .iconst k => if n = 1 then some (pc + 1, l, .int (Int32.ofInt k) :: st) else none
  | .bipush k => if n = 2 then some (pc + 2, l, .int (Int32.ofInt k) :: st) else none
  | .sipush k => if n = 3 then some (pc + 3, l, .int (Int32.ofInt k) :: st) else none
  | .lconst k => if n = 1 then some (pc + 1, l, .long (Int64.ofNat k.val) :: st) else none
  | .dconst k => if n = 1 ∧ k = 0 then some (pc + 1, l, .double 0 :: st) else none
  | .aconst_null => if n = 1 then some (pc + 1, l, .ref 0 :: st) else none
  | .iload_n k => if n = 1 then ldI l k.val (pc + 1) st else none
  | .iload k => if n = 2 then ldI l k (pc + 2) st else none
  | .lload_n k => if n = 1 then ldL l k.val (pc + 1) st else none
  | .lload k => if n = 2 then ldL l k (pc + 2) st else none
  | .dload_n k => if n = 1 then ldD l k.val (pc + 1) st else none
  | .dload k => if n = 2 then ldD l k (pc + 2) st else none
  | .aload_n k => if n = 1 then ldA l k.val (pc + 1) st else none
  | .aload k => if n = 2 then ldA l k (pc + 2) st else none
  | .istore_n k => if n = 1 then tI l k.val (pc + 1) st else none
  | .istore k => if n = 2 then tI l k (pc + 2) st else none
  | .lstore_n k => if n = 1 then tL l k.val (pc + 1) st else none
  | .lstore k => if n = 2 then tL l k (pc + 2) st else none
  | .dstore_n k => if n = 1 then tD l k.val (pc + 1) st else none
  | .dstore k => if n = 2 then tD l k (pc + 2) st else none
  | .astore_n k => if n = 1 then tA l k.val (pc + 1) st else none
  | .astore k => if n = 2 then tA l k (pc + 2) st else none
  | .iinc k c => if n = 3 then (match l[k]? with | some (some (.int x)) => some (pc + 3, st1 l k (.int (x + Int32.ofInt c)), st) | _ => none) else none
  | .iadd => if n = 1 then oII (· + ·) l (pc + 1) st else none
  | .isub => if n = 1 then oII (· - ·) l (pc + 1) st else none
  | .imul => if n = 1 then oII (· * ·) l (pc + 1) st else none
  | .iand => if n = 1 then oII (· &&& ·) l (pc + 1) st else none
  | .ior => if n = 1 then oII (· ||| ·) l (pc + 1) st else none
  | .ishl => if n = 1 then oII (fun x y => x <<< (y &&& 31)) l (pc + 1) st else none
  | .ishr => if n = 1 then oII (fun x y => x >>> (y &&& 31)) l (pc + 1) st else none
  | .ladd => if n = 1 then oLL (· + ·) l (pc + 1) st else none
  | .lsub => if n = 1 then oLL (· - ·) l (pc + 1) st else none
  | .lmul => if n = 1 then oLL (· * ·) l (pc + 1) st else none
  | .land => if n = 1 then oLL (· &&& ·) l (pc + 1) st else none
  | .lor => if n = 1 then oLL (· ||| ·) l (pc + 1) st else none
  | .lxor => if n = 1 then oLL (· ^^^ ·) l (pc + 1) st else none
  | .lneg => if n = 1 then (match st with | .long x :: r => some (pc + 1, l, .long (-x) :: r) | _ => none) else none
  | .lshl => if n = 1 then oLI (fun x y => x <<< (y.toInt64 &&& 63)) l (pc + 1) st else none
  | .lshr => if n = 1 then oLI (fun x y => x >>> (y.toInt64 &&& 63)) l (pc + 1) st else none
  | .lushr => if n = 1 then oLI (fun x y => (x.toUInt64 >>> (y.toInt64.toUInt64 &&& Int64.toUInt64 63)).toInt64) l (pc + 1) st else none
  | .lcmp => if n = 1 then (match st with | .long y :: .long x :: r => some (pc + 1, l, .int (lg_cmp x y) :: r) | _ => none) else none
  | .dcmp op => if n = 1 then (match st with | .double y :: .double x :: r => some (pc + 1, l, .int (Op.cmpValue (FP.dcmp x y) op) :: r) | _ => none) else none
  | .dneg => if n = 1 then (match st with | .double x :: r => some (pc + 1, l, .double (FP.dneg x) :: r) | _ => none) else none
  | .i2l => if n = 1 then (match st with | .int x :: r => some (pc + 1, l, .long x.toInt64 :: r) | _ => none) else none
  | .l2i => if n = 1 then (match st with | .long x :: r => some (pc + 1, l, .int x.toInt32 :: r) | _ => none) else none
  | .i2b => if n = 1 then (match st with | .int x :: r => some (pc + 1, l, .int x.toInt8.toInt32 :: r) | _ => none) else none
  | .i2d => if n = 1 then (match st with | .int x :: r => some (pc + 1, l, .double (FP.i2d x) :: r) | _ => none) else none
  | .l2d => if n = 1 then (match st with | .long x :: r => some (pc + 1, l, .double (FP.l2d x) :: r) | _ => none) else none
  | .dup => if n = 1 then (match st with | .ref x :: r => some (pc + 1, l, .ref x :: .ref x :: r) | .int x :: r => some (pc + 1, l, .int x :: .int x :: r) | _ => none) else none
  | .dup2 => if n = 1 then (match st with | .int y :: .ref x :: r => some (pc + 1, l, .int y :: .ref x :: .int y :: .ref x :: r) | _ => none) else none
  | .pop => if n = 1 then (match st with | .ref _ :: r => some (pc + 1, l, r) | .int _ :: r => some (pc + 1, l, r) | _ => none) else none
  | .goto off => if n = 3 then (if okt pc off then some (tgt pc off, l, st) else none) else none
  | .ifCond c off => if n = 3 then bI (cnd1 c) off l pc st else none
  | .if_icmp c off => if n = 3 then bII (cnd2 c) off l pc st else none
  | .ifnull off => if n = 3 then (match st with | .ref x :: r => if okt pc off then some (if x = 0 then tgt pc off else pc + 3, l, r) else none | _ => none) else none
  | .ifnonnull off => if n = 3 then (match st with | .ref x :: r => if okt pc off then some (if x = 0 then pc + 3 else tgt pc off, l, r) else none | _ => none) else none
  | .lookupswitch d ps => (match st with | .int x :: r => if (ps.toList.zip (ps.toList.drop 1)).all (fun (a, nx) => a.1 < nx.1) = true ∧ okt pc d = true ∧ (ps.toList.all fun p => okt pc p.2) = true then some (tgt pc (swi x.toInt d ps.toList), l, r) else none | _ => none)
  | .tableswitch d lo hi os => (match st with | .int x :: r => if okt pc d = true ∧ (os.toList.all fun o => okt pc o) = true ∧ hi - lo + 1 = os.size then some (if x.toInt < lo ∨ hi < x.toInt then tgt pc d else tgt pc (os.getD (x.toInt - lo).toNat d), l, r) else none | _ => none)
  | _ => none
end
section
/-! the program as data, by program (gen.py) -/
def T_0 : u_T := fun k => match k with
  | 0 => ("FormatForge$Bytes", "row", "[B", true)
  | _ => ("FormatForge$Bytes", "length", "I", false)
def ty_0 : Nat → FieldType := fun k => match k with
  | 0 => .array .byte
  | _ => .int
def T_1 : u_T := fun k => match k with
  | 0 => ("FormatForge$Longs", "row", "[J", true)
  | _ => ("FormatForge$Longs", "length", "I", false)
def ty_1 : Nat → FieldType := fun k => match k with
  | 0 => .array .long
  | _ => .int
def T_2 : u_T := fun k => match k with
  | 0 => ("FormatForge$Node", "kind", "I", false)
  | 1 => ("FormatForge$Node", "width", "I", false)
  | 2 => ("FormatForge$Node", "name", "I", false)
  | 3 => ("FormatForge$Node", "figure", "I", false)
  | 4 => ("FormatForge$Node", "key", "I", false)
  | 5 => ("FormatForge$Node", "meant", "LFormatForge$Node;", false)
  | 6 => ("FormatForge$Node", "outer", "LFormatForge$Node;", false)
  | 7 => ("FormatForge$Node", "before", "LFormatForge$Node;", false)
  | 8 => ("FormatForge$Node", "next", "LFormatForge$Node;", false)
  | 9 => ("FormatForge$Node", "firstPart", "LFormatForge$Node;", false)
  | 10 => ("FormatForge$Node", "lastPart", "LFormatForge$Node;", false)
  | 11 => ("FormatForge$Node", "low", "J", false)
  | 12 => ("FormatForge$Node", "high", "J", false)
  | 13 => ("FormatForge$Node", "least", "J", false)
  | 14 => ("FormatForge$Node", "most", "J", false)
  | _ => ("FormatForge$Node", "latest", "J", false)
def ty_2 : Nat → FieldType := fun k => match k with
  | 0 => .int
  | 1 => .int
  | 2 => .int
  | 3 => .int
  | 4 => .int
  | 5 => .object "FormatForge$Node"
  | 6 => .object "FormatForge$Node"
  | 7 => .object "FormatForge$Node"
  | 8 => .object "FormatForge$Node"
  | 9 => .object "FormatForge$Node"
  | 10 => .object "FormatForge$Node"
  | 11 => .long
  | 12 => .long
  | 13 => .long
  | 14 => .long
  | _ => .long
def T_3 : u_T := fun k => match k with
  | 0 => ("FormatForge$Format", "nodes", "[LFormatForge$Node;", true)
  | _ => ("FormatForge$Format", "used", "I", false)
def ty_3 : Nat → FieldType := fun k => match k with
  | 0 => .array (.object "FormatForge$Node")
  | _ => .int
def T_4 : u_T := fun k => match k with
  | 0 => ("FormatForge$Parser", "text", "LFormatForge$Bytes;", true)
  | 1 => ("FormatForge$Parser", "format", "LFormatForge$Format;", true)
  | _ => ("FormatForge$Parser", "place", "I", false)
def ty_4 : Nat → FieldType := fun k => match k with
  | 0 => .object "FormatForge$Bytes"
  | 1 => .object "FormatForge$Format"
  | _ => .int
def T_5 : u_T := fun k => match k with
  | 0 => ("FormatForge$Course", "bit", "I", false)
  | 1 => ("FormatForge$Course", "spot", "I", false)
  | 2 => ("FormatForge$Course", "name", "I", false)
  | 3 => ("FormatForge$Reading", "message", "LFormatForge$Bytes;", true)
  | _ => ("FormatForge$Reading", "found", "LFormatForge$Longs;", true)
def ty_5 : Nat → FieldType := fun k => match k with
  | 0 => .int
  | 1 => .int
  | 2 => .int
  | 3 => .object "FormatForge$Bytes"
  | _ => .object "FormatForge$Longs"
def T_6 : u_T := fun k => match k with
  | 0 => ("FormatForge$Course", "bit", "I", false)
  | 1 => ("FormatForge$Course", "spot", "I", false)
  | 2 => ("FormatForge$Course", "name", "I", false)
  | 3 => ("FormatForge$Writing", "values", "LFormatForge$Longs;", true)
  | 4 => ("FormatForge$Writing", "made", "LFormatForge$Bytes;", true)
  | 5 => ("FormatForge$Writing", "taken", "I", false)
  | _ => ("FormatForge$Writing", "v", "J", false)
def ty_6 : Nat → FieldType := fun k => match k with
  | 0 => .int
  | 1 => .int
  | 2 => .int
  | 3 => .object "FormatForge$Longs"
  | 4 => .object "FormatForge$Bytes"
  | 5 => .int
  | _ => .long
def T_7 : u_T := fun k => match k with
  | 0 => ("FormatForge", "text", "LFormatForge$Bytes;", true)
  | 1 => ("FormatForge", "message", "LFormatForge$Bytes;", true)
  | 2 => ("FormatForge", "values", "LFormatForge$Longs;", true)
  | 3 => ("FormatForge", "made", "LFormatForge$Bytes;", true)
  | 4 => ("FormatForge", "found", "LFormatForge$Longs;", true)
  | 5 => ("FormatForge", "draft", "LFormatForge$Format;", false)
  | 6 => ("FormatForge", "compiled", "LFormatForge$Format;", false)
  | 7 => ("FormatForge", "isCompiled", "Z", false)
  | 8 => ("FormatForge", "spot", "I", false)
  | _ => ("FormatForge", "name", "I", false)
def ty_7 : Nat → FieldType := fun k => match k with
  | 0 => .object "FormatForge$Bytes"
  | 1 => .object "FormatForge$Bytes"
  | 2 => .object "FormatForge$Longs"
  | 3 => .object "FormatForge$Bytes"
  | 4 => .object "FormatForge$Longs"
  | 5 => .object "FormatForge$Format"
  | 6 => .object "FormatForge$Format"
  | 7 => .boolean
  | 8 => .int
  | _ => .int
def T_8 : u_T := fun k => match k with
  | 0 => ("FormatForgeModel", "failed", "I", false)
  | 1 => ("FormatForgeModel", "text", "[I", true)
  | 2 => ("FormatForgeModel", "length", "I", false)
  | 3 => ("FormatForgeModel", "formed", "[I", true)
  | 4 => ("FormatForgeModel", "formedLength", "I", false)
  | 5 => ("FormatForgeModel", "compiled", "Z", false)
  | 6 => ("FormatForgeModel", "message", "[I", true)
  | 7 => ("FormatForgeModel", "size", "I", false)
  | 8 => ("FormatForgeModel", "values", "[J", true)
  | 9 => ("FormatForgeModel", "count", "I", false)
  | 10 => ("FormatForgeModel", "spot", "I", false)
  | 11 => ("FormatForgeModel", "spotName", "I", false)
  | 12 => ("FormatForgeModel", "kind", "[I", true)
  | 13 => ("FormatForgeModel", "digit", "[I", true)
  | 14 => ("FormatForgeModel", "limit", "[I", true)
  | 15 => ("FormatForgeModel", "figure", "[I", true)
  | 16 => ("FormatForgeModel", "meant", "[I", true)
  | 17 => ("FormatForgeModel", "name", "[I", true)
  | 18 => ("FormatForgeModel", "caseOf", "[I", true)
  | 19 => ("FormatForgeModel", "parent", "[I", true)
  | 20 => ("FormatForgeModel", "child", "[I", true)
  | 21 => ("FormatForgeModel", "next", "[I", true)
  | 22 => ("FormatForgeModel", "before", "[I", true)
  | 23 => ("FormatForgeModel", "nodes", "I", false)
  | 24 => ("FormatForgeModel", "open", "[I", true)
  | 25 => ("FormatForgeModel", "state", "[I", true)
  | 26 => ("FormatForgeModel", "digits", "[I", true)
  | 27 => ("FormatForgeModel", "wanted", "[I", true)
  | 28 => ("FormatForgeModel", "top", "I", false)
  | 29 => ("FormatForgeModel", "low", "[J", true)
  | 30 => ("FormatForgeModel", "high", "[J", true)
  | 31 => ("FormatForgeModel", "least", "[J", true)
  | 32 => ("FormatForgeModel", "most", "[J", true)
  | 33 => ("FormatForgeModel", "field", "[I", true)
  | 34 => ("FormatForgeModel", "value", "[J", true)
  | 35 => ("FormatForgeModel", "run", "[I", true)
  | 36 => ("FormatForgeModel", "at", "[I", true)
  | 37 => ("FormatForgeModel", "left", "[J", true)
  | 38 => ("FormatForgeModel", "from", "[I", true)
  | 39 => ("FormatForgeModel", "depth", "I", false)
  | 40 => ("FormatForgeModel", "writing", "Z", false)
  | 41 => ("FormatForgeModel", "fault", "I", false)
  | 42 => ("FormatForgeModel", "pos", "I", false)
  | 43 => ("FormatForgeModel", "bit", "I", false)
  | 44 => ("FormatForgeModel", "made", "[I", true)
  | 45 => ("FormatForgeModel", "got", "[J", true)
  | 46 => ("FormatForgeModel", "gotten", "I", false)
  | 47 => ("FormatForgeModel", "unitSpot", "I", false)
  | _ => ("FormatForgeModel", "unitName", "I", false)
def ty_8 : Nat → FieldType := fun k => match k with
  | 0 => .int
  | 1 => .array .int
  | 2 => .int
  | 3 => .array .int
  | 4 => .int
  | 5 => .boolean
  | 6 => .array .int
  | 7 => .int
  | 8 => .array .long
  | 9 => .int
  | 10 => .int
  | 11 => .int
  | 12 => .array .int
  | 13 => .array .int
  | 14 => .array .int
  | 15 => .array .int
  | 16 => .array .int
  | 17 => .array .int
  | 18 => .array .int
  | 19 => .array .int
  | 20 => .array .int
  | 21 => .array .int
  | 22 => .array .int
  | 23 => .int
  | 24 => .array .int
  | 25 => .array .int
  | 26 => .array .int
  | 27 => .array .int
  | 28 => .int
  | 29 => .array .long
  | 30 => .array .long
  | 31 => .array .long
  | 32 => .array .long
  | 33 => .array .int
  | 34 => .array .long
  | 35 => .array .int
  | 36 => .array .int
  | 37 => .array .long
  | 38 => .array .int
  | 39 => .int
  | 40 => .boolean
  | 41 => .int
  | 42 => .int
  | 43 => .int
  | 44 => .array .int
  | 45 => .array .long
  | 46 => .int
  | 47 => .int
  | _ => .int
def T_9 : u_T := fun _ => ("", "", "", false)
def ty_9 : Nat → FieldType := fun _ => .int
def T_10 : u_T := fun _ => ("", "", "", false)
def ty_10 : Nat → FieldType := fun _ => .int
def T_11 : u_T := fun _ => ("", "", "", false)
def ty_11 : Nat → FieldType := fun _ => .int
def T_12 : u_T := fun _ => ("", "", "", false)
def ty_12 : Nat → FieldType := fun _ => .int
def T_13 : u_T := fun _ => ("", "", "", false)
def ty_13 : Nat → FieldType := fun _ => .int
def kls : List vw_C := [("FormatForge$Bytes", T_0, 2), ("FormatForge$Longs", T_1, 2), ("FormatForge$Node", T_2, 16), ("FormatForge$Format", T_3, 2), ("FormatForge$Parser", T_4, 3), ("FormatForge$Reading", T_5, 5), ("FormatForge$Writing", T_6, 7), ("FormatForge", T_7, 10), ("FormatForgeModel", T_8, 49), ("java/lang/IllegalArgumentException", T_9, 0), ("java/lang/IllegalStateException", T_10, 0), ("java/lang/IndexOutOfBoundsException", T_11, 0), ("java/lang/UnsupportedOperationException", T_12, 0), ("java/util/NoSuchElementException", T_13, 0)]
def nfs (k : Nat) : Nat := match k with
  | 0 => 2
  | 1 => 2
  | 2 => 16
  | 3 => 2
  | 4 => 3
  | 5 => 5
  | 6 => 7
  | 7 => 10
  | 8 => 49
  | _ => 0
/-- the kinds of the fields: 0 int, 1 long, 2 reference, 3 boolean -/
def ftg (k j : Nat) : Nat := match k with
  | 0 => ([2, 0] : List Nat).getD j 0
  | 1 => ([2, 0] : List Nat).getD j 0
  | 2 => ([0, 0, 0, 0, 0, 2, 2, 2, 2, 2, 2, 1, 1, 1, 1, 1] : List Nat).getD j 0
  | 3 => ([2, 0] : List Nat).getD j 0
  | 4 => ([2, 2, 0] : List Nat).getD j 0
  | 5 => ([0, 0, 0, 2, 2] : List Nat).getD j 0
  | 6 => ([0, 0, 0, 2, 2, 0, 1] : List Nat).getD j 0
  | 7 => ([2, 2, 2, 2, 2, 2, 2, 3, 0, 0] : List Nat).getD j 0
  | 8 => ([0, 2, 0, 2, 0, 3, 2, 0, 2, 0, 0, 0, 2, 2, 2, 2, 2, 2, 2, 2, 2, 2, 2, 0, 2, 2, 2, 2, 0, 2, 2, 2, 2, 2, 2, 2, 2, 2, 2, 0, 3, 0, 0, 0, 2, 2, 0, 0, 0] : List Nat).getD j 0
  | _ => 0
def clN (k : Nat) : String := match k with
  | 0 => "FormatForge$Bytes"
  | 1 => "FormatForge$Longs"
  | 2 => "FormatForge$Node"
  | 3 => "FormatForge$Format"
  | 4 => "FormatForge$Parser"
  | 5 => "FormatForge$Reading"
  | 6 => "FormatForge$Writing"
  | 7 => "FormatForge"
  | 8 => "FormatForgeModel"
  | 9 => "java/lang/IllegalArgumentException"
  | 10 => "java/lang/IllegalStateException"
  | 11 => "java/lang/IndexOutOfBoundsException"
  | 12 => "java/lang/UnsupportedOperationException"
  | 13 => "java/util/NoSuchElementException"
  | 15 => "FormatForge$Course"
  | 16 => "FormatForgeLaw"
  | 17 => "java/lang/Math"
  | _ => ""
def m_Ff_init : Mr := (7, ⟨"FormatForge", "<init>", "()V"⟩, prog_1_method_1_code, 1, none, true, [])
def m_Ff_type : Mr := (7, ⟨"FormatForge", "type", "(J)I"⟩, prog_1_method_2_code, 6, some .int, false, [])
def m_Ff_clear : Mr := (7, ⟨"FormatForge", "clear", "()I"⟩, prog_1_method_3_code, 2, some .int, false, [])
def m_Ff_fault : Mr := (7, ⟨"FormatForge", "fault", "()I"⟩, prog_1_method_4_code, 1, some .int, false, [])
def m_Ff_compile : Mr := (7, ⟨"FormatForge", "compile", "()I"⟩, prog_1_method_5_code, 2, some .int, false, [])
def m_Ff_size : Mr := (7, ⟨"FormatForge", "size", "(Z)I"⟩, prog_1_method_6_code, 2, some .int, false, [])
def m_Ff_put : Mr := (7, ⟨"FormatForge", "put", "(JI)I"⟩, prog_1_method_7_code, 5, some .int, false, [])
def m_Ff_cut : Mr := (7, ⟨"FormatForge", "cut", "(I)I"⟩, prog_1_method_8_code, 2, some .int, false, [])
def m_Ff_read : Mr := (7, ⟨"FormatForge", "read", "()I"⟩, prog_1_method_9_code, 2, some .int, false, [])
def m_Ff_write : Mr := (7, ⟨"FormatForge", "write", "()I"⟩, prog_1_method_10_code, 2, some .int, false, [])
def m_Ff_value : Mr := (7, ⟨"FormatForge", "value", "(I)J"⟩, prog_1_method_11_code, 2, some .long, false, [])
def m_Ff_real : Mr := (7, ⟨"FormatForge", "real", "(I)D"⟩, prog_1_method_12_code, 2, some .double, false, [])
def m_Ff_set : Mr := (7, ⟨"FormatForge", "set", "(IJ)I"⟩, prog_1_method_13_code, 4, some .int, false, [])
def m_Ff_drop : Mr := (7, ⟨"FormatForge", "drop", "(II)I"⟩, prog_1_method_14_code, 3, some .int, false, [])
def m_Ff_byteAt : Mr := (7, ⟨"FormatForge", "byteAt", "(I)I"⟩, prog_1_method_15_code, 2, some .int, false, [])
def m_Ff_count : Mr := (7, ⟨"FormatForge", "count", "(I)I"⟩, prog_1_method_16_code, 2, some .int, false, [])
def m_Ff_demandCompiled : Mr := (7, ⟨"FormatForge", "demandCompiled", "()V"⟩, prog_1_method_17_code, 1, none, false, [])
def m_Ff_demandFine : Mr := (7, ⟨"FormatForge", "demandFine", "(LFormatForge$Course;I)V"⟩, prog_1_method_18_code, 3, none, false, [])
def m_Ff_demandValue : Mr := (7, ⟨"FormatForge", "demandValue", "(I)V"⟩, prog_1_method_19_code, 2, none, false, [])
def m_Ff_byteOf : Mr := (7, ⟨"FormatForge", "byteOf", "(JI)I"⟩, prog_1_method_20_code, 3, some .int, false, [])
def m_Ff_doubleOf : Mr := (7, ⟨"FormatForge", "doubleOf", "(J)D"⟩, prog_1_method_21_code, 9, some .double, false, [])
def m_Mo_init : Mr := (8, ⟨"FormatForgeModel", "<init>", "()V"⟩, prog_11_method_1_code, 1, none, true, [])
def m_Mo_thrown : Mr := (8, ⟨"FormatForgeModel", "thrown", "()I"⟩, prog_11_method_2_code, 1, some .int, false, [])
def m_Mo_fail : Mr := (8, ⟨"FormatForgeModel", "fail", "(I)I"⟩, prog_11_method_3_code, 2, some .int, false, [])
def m_Mo_out : Mr := (8, ⟨"FormatForgeModel", "out", "(II)Z"⟩, prog_11_method_4_code, 3, some .boolean, false, [])
def m_Mo_isDigit : Mr := (8, ⟨"FormatForgeModel", "isDigit", "(I)Z"⟩, prog_11_method_5_code, 2, some .boolean, false, [])
def m_Mo_sized : Mr := (8, ⟨"FormatForgeModel", "sized", "(I)Z"⟩, prog_11_method_6_code, 2, some .boolean, false, [])
def m_Mo_type : Mr := (8, ⟨"FormatForgeModel", "type", "(J)I"⟩, prog_11_method_7_code, 6, some .int, false, [])
def m_Mo_clear : Mr := (8, ⟨"FormatForgeModel", "clear", "()I"⟩, prog_11_method_8_code, 2, some .int, false, [])
def m_Mo_finish : Mr := (8, ⟨"FormatForgeModel", "finish", "()V"⟩, prog_11_method_9_code, 1, none, false, [])
def m_Mo_beginType : Mr := (8, ⟨"FormatForgeModel", "beginType", "(I)Z"⟩, prog_11_method_10_code, 5, some .boolean, false, [])
def m_Mo_hang : Mr := (8, ⟨"FormatForgeModel", "hang", "(II)V"⟩, prog_11_method_11_code, 4, none, false, [])
def m_Mo_isName : Mr := (8, ⟨"FormatForgeModel", "isName", "(I)Z"⟩, prog_11_method_12_code, 2, some .boolean, false, [])
def m_Mo_inSized : Mr := (8, ⟨"FormatForgeModel", "inSized", "(I)I"⟩, prog_11_method_13_code, 4, some .int, false, [])
def m_Mo_inStructure : Mr := (8, ⟨"FormatForgeModel", "inStructure", "(I)Z"⟩, prog_11_method_14_code, 3, some .boolean, false, [])
def m_Mo_inChoice : Mr := (8, ⟨"FormatForgeModel", "inChoice", "(I)Z"⟩, prog_11_method_15_code, 5, some .boolean, false, [])
def m_Mo_inMany : Mr := (8, ⟨"FormatForgeModel", "inMany", "(I)Z"⟩, prog_11_method_16_code, 3, some .boolean, false, [])
def m_Mo_sign : Mr := (8, ⟨"FormatForgeModel", "sign", "(I)Z"⟩, prog_11_method_17_code, 3, some .boolean, false, [])
def m_Mo_wholeNow : Mr := (8, ⟨"FormatForgeModel", "wholeNow", "()Z"⟩, prog_11_method_18_code, 2, some .boolean, false, [])
def m_Mo_scan : Mr := (8, ⟨"FormatForgeModel", "scan", "(Z)I"⟩, prog_11_method_19_code, 4, some .int, false, [])
def m_Mo_fault : Mr := (8, ⟨"FormatForgeModel", "fault", "()I"⟩, prog_11_method_20_code, 1, some .int, false, [])
def m_Mo_interval : Mr := (8, ⟨"FormatForgeModel", "interval", "(I)V"⟩, prog_11_method_21_code, 5, none, false, [])
def m_Mo_find : Mr := (8, ⟨"FormatForgeModel", "find", "(I)I"⟩, prog_11_method_22_code, 5, some .int, false, [])
def m_Mo_capped : Mr := (8, ⟨"FormatForgeModel", "capped", "(J)J"⟩, prog_11_method_23_code, 3, some .long, false, [])
def m_Mo_sumFields : Mr := (8, ⟨"FormatForgeModel", "sumFields", "(I)V"⟩, prog_11_method_24_code, 4, none, false, [])
def m_Mo_measure : Mr := (8, ⟨"FormatForgeModel", "measure", "(I)V"⟩, prog_11_method_25_code, 10, none, false, [])
def m_Mo_goodCases : Mr := (8, ⟨"FormatForgeModel", "goodCases", "(I)Z"⟩, prog_11_method_26_code, 5, some .boolean, false, [])
def m_Mo_soundNode : Mr := (8, ⟨"FormatForgeModel", "soundNode", "(I)Z"⟩, prog_11_method_27_code, 4, some .boolean, false, [])
def m_Mo_soundAll : Mr := (8, ⟨"FormatForgeModel", "soundAll", "()Z"⟩, prog_11_method_28_code, 3, some .boolean, false, [])
def m_Mo_compile : Mr := (8, ⟨"FormatForgeModel", "compile", "()I"⟩, prog_11_method_29_code, 2, some .int, false, [])
def m_Mo_restore : Mr := (8, ⟨"FormatForgeModel", "restore", "()V"⟩, prog_11_method_30_code, 3, none, false, [])
def m_Mo_size : Mr := (8, ⟨"FormatForgeModel", "size", "(Z)I"⟩, prog_11_method_31_code, 2, some .int, false, [])
def m_Mo_put : Mr := (8, ⟨"FormatForgeModel", "put", "(JI)I"⟩, prog_11_method_32_code, 5, some .int, false, [])
def m_Mo_cut : Mr := (8, ⟨"FormatForgeModel", "cut", "(I)I"⟩, prog_11_method_33_code, 2, some .int, false, [])
def m_Mo_wrong : Mr := (8, ⟨"FormatForgeModel", "wrong", "(Z)V"⟩, prog_11_method_34_code, 2, none, false, [])
def m_Mo_nextByte : Mr := (8, ⟨"FormatForgeModel", "nextByte", "()I"⟩, prog_11_method_35_code, 1, some .int, false, [])
def m_Mo_putByte : Mr := (8, ⟨"FormatForgeModel", "putByte", "(I)V"⟩, prog_11_method_36_code, 2, none, false, [])
def m_Mo_take : Mr := (8, ⟨"FormatForgeModel", "take", "()J"⟩, prog_11_method_37_code, 1, some .long, false, [])
def m_Mo_give : Mr := (8, ⟨"FormatForgeModel", "give", "(J)V"⟩, prog_11_method_38_code, 3, none, false, [])
def m_Mo_rest : Mr := (8, ⟨"FormatForgeModel", "rest", "()V"⟩, prog_11_method_39_code, 1, none, false, [])
def m_Mo_nameAround : Mr := (8, ⟨"FormatForgeModel", "nameAround", "(I)I"⟩, prog_11_method_40_code, 3, some .int, false, [])
def m_Mo_readBits : Mr := (8, ⟨"FormatForgeModel", "readBits", "(I)J"⟩, prog_11_method_41_code, 6, some .long, false, [])
def m_Mo_writeBits : Mr := (8, ⟨"FormatForgeModel", "writeBits", "(JI)V"⟩, prog_11_method_42_code, 5, none, false, [])
def m_Mo_readNumber : Mr := (8, ⟨"FormatForgeModel", "readNumber", "(I)J"⟩, prog_11_method_43_code, 8, some .long, false, [])
def m_Mo_writeNumber : Mr := (8, ⟨"FormatForgeModel", "writeNumber", "(IJ)V"⟩, prog_11_method_44_code, 6, none, false, [])
def m_Mo_sizedUnit : Mr := (8, ⟨"FormatForgeModel", "sizedUnit", "(I)V"⟩, prog_11_method_45_code, 5, none, false, [])
def m_Mo_floating : Mr := (8, ⟨"FormatForgeModel", "floating", "(I)V"⟩, prog_11_method_46_code, 6, none, false, [])
def m_Mo_words : Mr := (8, ⟨"FormatForgeModel", "words", "(Z)V"⟩, prog_11_method_47_code, 4, none, false, [])
def m_Mo_writeWords : Mr := (8, ⟨"FormatForgeModel", "writeWords", "(Z)V"⟩, prog_11_method_48_code, 7, none, false, [])
def m_Mo_unit : Mr := (8, ⟨"FormatForgeModel", "unit", "(I)V"⟩, prog_11_method_49_code, 4, none, false, [])
def m_Mo_enter : Mr := (8, ⟨"FormatForgeModel", "enter", "(I)V"⟩, prog_11_method_50_code, 6, none, false, [])
def m_Mo_goOn : Mr := (8, ⟨"FormatForgeModel", "goOn", "()V"⟩, prog_11_method_51_code, 5, none, false, [])
def m_Mo_pass : Mr := (8, ⟨"FormatForgeModel", "pass", "(Z)V"⟩, prog_11_method_52_code, 2, none, false, [])
def m_Mo_read : Mr := (8, ⟨"FormatForgeModel", "read", "()I"⟩, prog_11_method_53_code, 2, some .int, false, [])
def m_Mo_write : Mr := (8, ⟨"FormatForgeModel", "write", "()I"⟩, prog_11_method_54_code, 2, some .int, false, [])
def m_Mo_value : Mr := (8, ⟨"FormatForgeModel", "value", "(I)J"⟩, prog_11_method_55_code, 2, some .long, false, [])
def m_Mo_real : Mr := (8, ⟨"FormatForgeModel", "real", "(I)D"⟩, prog_11_method_56_code, 12, some .double, false, [])
def m_Mo_set : Mr := (8, ⟨"FormatForgeModel", "set", "(IJ)I"⟩, prog_11_method_57_code, 4, some .int, false, [])
def m_Mo_drop : Mr := (8, ⟨"FormatForgeModel", "drop", "(II)I"⟩, prog_11_method_58_code, 4, some .int, false, [])
def m_Mo_byteAt : Mr := (8, ⟨"FormatForgeModel", "byteAt", "(I)I"⟩, prog_11_method_59_code, 2, some .int, false, [])
def m_Mo_count : Mr := (8, ⟨"FormatForgeModel", "count", "(I)I"⟩, prog_11_method_60_code, 2, some .int, false, [])
def m_By_init : Mr := (0, ⟨"FormatForge$Bytes", "<init>", "(I)V"⟩, prog_2_method_1_code, 2, none, true, [])
def m_By_hasRoomFor : Mr := (0, ⟨"FormatForge$Bytes", "hasRoomFor", "(I)Z"⟩, prog_2_method_2_code, 2, some .boolean, false, [])
def m_By_at : Mr := (0, ⟨"FormatForge$Bytes", "at", "(I)I"⟩, prog_2_method_3_code, 2, some .int, false, [])
def m_By_append : Mr := (0, ⟨"FormatForge$Bytes", "append", "(I)Z"⟩, prog_2_method_4_code, 2, some .boolean, false, [])
def m_By_markInLast : Mr := (0, ⟨"FormatForge$Bytes", "markInLast", "(I)V"⟩, prog_2_method_5_code, 2, none, false, [])
def m_By_shortenTo : Mr := (0, ⟨"FormatForge$Bytes", "shortenTo", "(I)V"⟩, prog_2_method_6_code, 2, none, false, [])
def m_By_forgetAll : Mr := (0, ⟨"FormatForge$Bytes", "forgetAll", "()V"⟩, prog_2_method_7_code, 1, none, false, [])
def m_By_becomeLike : Mr := (0, ⟨"FormatForge$Bytes", "becomeLike", "(LFormatForge$Bytes;)V"⟩, prog_2_method_8_code, 2, none, false, [])
def m_Co_init : Mr := (15, ⟨"FormatForge$Course", "<init>", "()V"⟩, prog_3_method_1_code, 1, none, true, [])
def m_Co_pass : Mr := (15, ⟨"FormatForge$Course", "pass", "(LFormatForge$Format;)I"⟩, prog_3_method_7_code, 2, some .int, false, [])
def m_Co_bytesPassed : Mr := (15, ⟨"FormatForge$Course", "bytesPassed", "()I"⟩, prog_3_method_8_code, 1, some .int, false, [])
def m_Co_passType : Mr := (15, ⟨"FormatForge$Course", "passType", "(LFormatForge$Node;I)I"⟩, prog_3_method_9_code, 3, some .int, false, [])
def m_Co_passUnit : Mr := (15, ⟨"FormatForge$Course", "passUnit", "(LFormatForge$Node;)I"⟩, prog_3_method_10_code, 2, some .int, false, [])
def m_Co_passFields : Mr := (15, ⟨"FormatForge$Course", "passFields", "(LFormatForge$Node;I)I"⟩, prog_3_method_11_code, 5, some .int, false, [])
def m_Co_passCounted : Mr := (15, ⟨"FormatForge$Course", "passCounted", "(LFormatForge$Node;I)I"⟩, prog_3_method_12_code, 8, some .int, false, [])
def m_Co_passSized : Mr := (15, ⟨"FormatForge$Course", "passSized", "(LFormatForge$Node;I)I"⟩, prog_3_method_13_code, 9, some .int, false, [])
def m_Co_passChoice : Mr := (15, ⟨"FormatForge$Course", "passChoice", "(LFormatForge$Node;I)I"⟩, prog_3_method_14_code, 6, some .int, false, [])
def m_Co_told : Mr := (15, ⟨"FormatForge$Course", "told", "(LFormatForge$Node;)J"⟩, prog_3_method_15_code, 1, some .long, false, [])
def m_Fo_init : Mr := (3, ⟨"FormatForge$Format", "<init>", "()V"⟩, prog_4_method_1_code, 2, none, true, [])
def m_Fo_forgetAll : Mr := (3, ⟨"FormatForge$Format", "forgetAll", "()V"⟩, prog_4_method_2_code, 1, none, false, [])
def m_Fo_fresh : Mr := (3, ⟨"FormatForge$Format", "fresh", "(ILFormatForge$Node;I)LFormatForge$Node;"⟩, prog_4_method_3_code, 5, some (.object "FormatForge$Node"), false, [])
def m_Fo_whole : Mr := (3, ⟨"FormatForge$Format", "whole", "()LFormatForge$Node;"⟩, prog_4_method_4_code, 1, some (.object "FormatForge$Node"), false, [])
def m_Fo_least : Mr := (3, ⟨"FormatForge$Format", "least", "()I"⟩, prog_4_method_5_code, 2, some .int, false, [])
def m_Fo_most : Mr := (3, ⟨"FormatForge$Format", "most", "()I"⟩, prog_4_method_6_code, 2, some .int, false, [])
def m_Fo_isSound : Mr := (3, ⟨"FormatForge$Format", "isSound", "()Z"⟩, prog_4_method_7_code, 3, some .boolean, false, [])
def m_Fo_isInPlace : Mr := (3, ⟨"FormatForge$Format", "isInPlace", "(LFormatForge$Node;)Z"⟩, prog_4_method_8_code, 1, some .boolean, false, [])
def m_Fo_isLastOfWhole : Mr := (3, ⟨"FormatForge$Format", "isLastOfWhole", "(LFormatForge$Node;)Z"⟩, prog_4_method_9_code, 1, some .boolean, false, [])
def m_Fo_findMeaning : Mr := (3, ⟨"FormatForge$Format", "findMeaning", "(LFormatForge$Node;)Z"⟩, prog_4_method_10_code, 1, some .boolean, false, [])
def m_Fo_fieldMeantIn : Mr := (3, ⟨"FormatForge$Format", "fieldMeantIn", "(LFormatForge$Node;)LFormatForge$Node;"⟩, prog_4_method_11_code, 3, some (.object "FormatForge$Node"), false, [])
def m_Fo_latestBefore : Mr := (3, ⟨"FormatForge$Format", "latestBefore", "(LFormatForge$Node;I)LFormatForge$Node;"⟩, prog_4_method_12_code, 3, some (.object "FormatForge$Node"), false, [])
def m_Fo_hasGoodFigures : Mr := (3, ⟨"FormatForge$Format", "hasGoodFigures", "(LFormatForge$Node;)Z"⟩, prog_4_method_13_code, 3, some .boolean, false, [])
def m_Fo_measure : Mr := (3, ⟨"FormatForge$Format", "measure", "(LFormatForge$Node;)V"⟩, prog_4_method_14_code, 1, none, false, [])
def m_Fo_measureStructure : Mr := (3, ⟨"FormatForge$Format", "measureStructure", "(LFormatForge$Node;)V"⟩, prog_4_method_15_code, 7, none, false, [])
def m_Fo_bytesFor : Mr := (3, ⟨"FormatForge$Format", "bytesFor", "(I)I"⟩, prog_4_method_16_code, 1, some .int, false, [])
def m_Fo_measureArray : Mr := (3, ⟨"FormatForge$Format", "measureArray", "(LFormatForge$Node;)V"⟩, prog_4_method_17_code, 3, none, false, [])
def m_Fo_measureChoice : Mr := (3, ⟨"FormatForge$Format", "measureChoice", "(LFormatForge$Node;)V"⟩, prog_4_method_18_code, 2, none, false, [])
def m_Fo_repeatsFittingly : Mr := (3, ⟨"FormatForge$Format", "repeatsFittingly", "(LFormatForge$Node;)Z"⟩, prog_4_method_19_code, 2, some .boolean, false, [])
def m_Lo_init : Mr := (1, ⟨"FormatForge$Longs", "<init>", "(I)V"⟩, prog_5_method_1_code, 2, none, true, [])
def m_Lo_at : Mr := (1, ⟨"FormatForge$Longs", "at", "(I)J"⟩, prog_5_method_2_code, 2, some .long, false, [])
def m_Lo_append : Mr := (1, ⟨"FormatForge$Longs", "append", "(J)Z"⟩, prog_5_method_3_code, 3, some .boolean, false, [])
def m_Lo_replace : Mr := (1, ⟨"FormatForge$Longs", "replace", "(IJ)V"⟩, prog_5_method_4_code, 4, none, false, [])
def m_Lo_takeOut : Mr := (1, ⟨"FormatForge$Longs", "takeOut", "(II)V"⟩, prog_5_method_5_code, 3, none, false, [])
def m_Lo_forgetAll : Mr := (1, ⟨"FormatForge$Longs", "forgetAll", "()V"⟩, prog_5_method_6_code, 1, none, false, [])
def m_Lo_becomeLike : Mr := (1, ⟨"FormatForge$Longs", "becomeLike", "(LFormatForge$Longs;)V"⟩, prog_5_method_7_code, 2, none, false, [])
def m_No_init : Mr := (2, ⟨"FormatForge$Node", "<init>", "()V"⟩, prog_6_method_1_code, 1, none, true, [])
def m_No_become : Mr := (2, ⟨"FormatForge$Node", "become", "(ILFormatForge$Node;I)V"⟩, prog_6_method_2_code, 4, none, false, [])
def m_No_addPart : Mr := (2, ⟨"FormatForge$Node", "addPart", "(LFormatForge$Node;)V"⟩, prog_6_method_3_code, 2, none, false, [])
def m_No_isPartOf : Mr := (2, ⟨"FormatForge$Node", "isPartOf", "(I)Z"⟩, prog_6_method_4_code, 2, some .boolean, false, [])
def m_No_mayBeNegative : Mr := (2, ⟨"FormatForge$Node", "mayBeNegative", "()Z"⟩, prog_6_method_5_code, 1, some .boolean, false, [])
def m_No_canBeMeant : Mr := (2, ⟨"FormatForge$Node", "canBeMeant", "()Z"⟩, prog_6_method_6_code, 1, some .boolean, false, [])
def m_No_hasKey : Mr := (2, ⟨"FormatForge$Node", "hasKey", "()Z"⟩, prog_6_method_7_code, 1, some .boolean, false, [])
def m_No_widenTo : Mr := (2, ⟨"FormatForge$Node", "widenTo", "(I)V"⟩, prog_6_method_8_code, 3, none, false, [])
def m_No_limitTo : Mr := (2, ⟨"FormatForge$Node", "limitTo", "(II)V"⟩, prog_6_method_9_code, 3, none, false, [])
def m_No_holds : Mr := (2, ⟨"FormatForge$Node", "holds", "(J)Z"⟩, prog_6_method_10_code, 3, some .boolean, false, [])
def m_Pa_init : Mr := (4, ⟨"FormatForge$Parser", "<init>", "(LFormatForge$Bytes;LFormatForge$Format;)V"⟩, prog_7_method_1_code, 3, none, true, [])
def m_Pa_parse : Mr := (4, ⟨"FormatForge$Parser", "parse", "()I"⟩, prog_7_method_2_code, 2, some .int, false, [])
def m_Pa_passType : Mr := (4, ⟨"FormatForge$Parser", "passType", "(LFormatForge$Node;II)LFormatForge$Node;"⟩, prog_7_method_3_code, 6, some (.object "FormatForge$Node"), false, [])
def m_Pa_beginsType : Mr := (4, ⟨"FormatForge$Parser", "beginsType", "(II)Z"⟩, prog_7_method_4_code, 2, some .boolean, false, [])
def m_Pa_passTail : Mr := (4, ⟨"FormatForge$Parser", "passTail", "(LFormatForge$Node;I)Z"⟩, prog_7_method_5_code, 3, some .boolean, false, [])
def m_Pa_passPart : Mr := (4, ⟨"FormatForge$Parser", "passPart", "(LFormatForge$Node;II)LFormatForge$Node;"⟩, prog_7_method_6_code, 5, some (.object "FormatForge$Node"), false, [])
def m_Pa_passFields : Mr := (4, ⟨"FormatForge$Parser", "passFields", "(LFormatForge$Node;I)Z"⟩, prog_7_method_7_code, 4, some .boolean, false, [])
def m_Pa_passField : Mr := (4, ⟨"FormatForge$Parser", "passField", "(LFormatForge$Node;I)Z"⟩, prog_7_method_8_code, 4, some .boolean, false, [])
def m_Pa_passCases : Mr := (4, ⟨"FormatForge$Parser", "passCases", "(LFormatForge$Node;I)Z"⟩, prog_7_method_9_code, 4, some .boolean, false, [])
def m_Pa_passCase : Mr := (4, ⟨"FormatForge$Parser", "passCase", "(LFormatForge$Node;I)Z"⟩, prog_7_method_10_code, 5, some .boolean, false, [])
def m_Pa_passKey : Mr := (4, ⟨"FormatForge$Parser", "passKey", "(LFormatForge$Node;)Z"⟩, prog_7_method_11_code, 2, some .boolean, false, [])
def m_Pa_passWidth : Mr := (4, ⟨"FormatForge$Parser", "passWidth", "(LFormatForge$Node;I)Z"⟩, prog_7_method_12_code, 4, some .boolean, false, [])
def m_Pa_passLimit : Mr := (4, ⟨"FormatForge$Parser", "passLimit", "(LFormatForge$Node;)Z"⟩, prog_7_method_13_code, 4, some .boolean, false, [])
def m_Pa_passFigure : Mr := (4, ⟨"FormatForge$Parser", "passFigure", "()I"⟩, prog_7_method_14_code, 4, some .int, false, [])
def m_Pa_passName : Mr := (4, ⟨"FormatForge$Parser", "passName", "()I"⟩, prog_7_method_15_code, 2, some .int, false, [])
def m_Pa_passSign : Mr := (4, ⟨"FormatForge$Parser", "passSign", "(I)Z"⟩, prog_7_method_16_code, 2, some .boolean, false, [])
def m_Re_init : Mr := (5, ⟨"FormatForge$Reading", "<init>", "(LFormatForge$Bytes;LFormatForge$Longs;)V"⟩, prog_8_method_1_code, 3, none, true, [])
def m_Re_passNumber : Mr := (5, ⟨"FormatForge$Reading", "passNumber", "(LFormatForge$Node;)I"⟩, prog_8_method_2_code, 7, some .int, false, [])
def m_Re_passBits : Mr := (5, ⟨"FormatForge$Reading", "passBits", "(LFormatForge$Node;)I"⟩, prog_8_method_3_code, 5, some .int, false, [])
def m_Re_passWords : Mr := (5, ⟨"FormatForge$Reading", "passWords", "()I"⟩, prog_8_method_4_code, 4, some .int, false, [])
def m_Re_passRest : Mr := (5, ⟨"FormatForge$Reading", "passRest", "()I"⟩, prog_8_method_5_code, 3, some .int, false, [])
def m_Re_passSpare : Mr := (5, ⟨"FormatForge$Reading", "passSpare", "()I"⟩, prog_8_method_6_code, 2, some .int, false, [])
def m_Re_nextBit : Mr := (5, ⟨"FormatForge$Reading", "nextBit", "()I"⟩, prog_8_method_7_code, 2, some .int, false, [])
def m_Re_keep : Mr := (5, ⟨"FormatForge$Reading", "keep", "(LFormatForge$Node;J)I"⟩, prog_8_method_8_code, 4, some .int, false, [])
def m_Re_keepBytes : Mr := (5, ⟨"FormatForge$Reading", "keepBytes", "(II)I"⟩, prog_8_method_9_code, 5, some .int, false, [])
def m_Wr_init : Mr := (6, ⟨"FormatForge$Writing", "<init>", "(LFormatForge$Longs;LFormatForge$Bytes;)V"⟩, prog_9_method_1_code, 3, none, true, [])
def m_Wr_passNumber : Mr := (6, ⟨"FormatForge$Writing", "passNumber", "(LFormatForge$Node;)I"⟩, prog_9_method_2_code, 5, some .int, false, [])
def m_Wr_passBits : Mr := (6, ⟨"FormatForge$Writing", "passBits", "(LFormatForge$Node;)I"⟩, prog_9_method_3_code, 4, some .int, false, [])
def m_Wr_passWords : Mr := (6, ⟨"FormatForge$Writing", "passWords", "()I"⟩, prog_9_method_4_code, 2, some .int, false, [])
def m_Wr_passRest : Mr := (6, ⟨"FormatForge$Writing", "passRest", "()I"⟩, prog_9_method_5_code, 2, some .int, false, [])
def m_Wr_passSpare : Mr := (6, ⟨"FormatForge$Writing", "passSpare", "()I"⟩, prog_9_method_6_code, 1, some .int, false, [])
def m_Wr_takeFor : Mr := (6, ⟨"FormatForge$Writing", "takeFor", "(LFormatForge$Node;)I"⟩, prog_9_method_7_code, 3, some .int, false, [])
def m_Wr_take : Mr := (6, ⟨"FormatForge$Writing", "take", "(JJ)I"⟩, prog_9_method_8_code, 5, some .int, false, [])
def m_Wr_makeBytes : Mr := (6, ⟨"FormatForge$Writing", "makeBytes", "(II)I"⟩, prog_9_method_9_code, 5, some .int, false, [])
def m_Wr_make : Mr := (6, ⟨"FormatForge$Writing", "make", "(I)I"⟩, prog_9_method_10_code, 2, some .int, false, [])
def m_Wr_makeBit : Mr := (6, ⟨"FormatForge$Writing", "makeBit", "(I)I"⟩, prog_9_method_11_code, 2, some .int, false, [])
def m_La_type : Mr := (16, ⟨"FormatForgeLaw", "type", "(LFormatForge;J[J)I"⟩, method_3_code, 5, some .int, false, [(0, 9, 12, 9), (0, 9, 16, 10)])
def m_La_compile : Mr := (16, ⟨"FormatForgeLaw", "compile", "(LFormatForge;[J)I"⟩, method_4_code, 3, some .int, false, [(0, 8, 11, 12), (0, 8, 14, 10)])
def m_La_size : Mr := (16, ⟨"FormatForgeLaw", "size", "(LFormatForge;Z[J)I"⟩, method_5_code, 4, some .int, false, [(0, 9, 12, 13)])
def m_La_put : Mr := (16, ⟨"FormatForgeLaw", "put", "(LFormatForge;JI[J)I"⟩, method_6_code, 6, some .int, false, [(0, 11, 14, 9), (0, 11, 18, 10)])
def m_La_cut : Mr := (16, ⟨"FormatForgeLaw", "cut", "(LFormatForge;I[J)I"⟩, method_7_code, 4, some .int, false, [(0, 9, 12, 9)])
def m_La_read : Mr := (16, ⟨"FormatForgeLaw", "read", "(LFormatForge;[J)I"⟩, method_8_code, 3, some .int, false, [(0, 8, 11, 12), (0, 8, 14, 13), (0, 8, 17, 10), (0, 8, 20, 11)])
def m_La_write : Mr := (16, ⟨"FormatForgeLaw", "write", "(LFormatForge;[J)I"⟩, method_9_code, 3, some .int, false, [(0, 8, 11, 12), (0, 8, 14, 13), (0, 8, 17, 10), (0, 8, 20, 11)])
def m_La_value : Mr := (16, ⟨"FormatForgeLaw", "value", "(LFormatForge;I[J)I"⟩, method_10_code, 4, some .int, false, [(0, 8, 11, 11)])
def m_La_real : Mr := (16, ⟨"FormatForgeLaw", "real", "(LFormatForge;I[D)I"⟩, method_11_code, 4, some .int, false, [(0, 8, 11, 11)])
def m_La_set : Mr := (16, ⟨"FormatForgeLaw", "set", "(LFormatForge;IJ[J)I"⟩, method_12_code, 6, some .int, false, [(0, 11, 14, 9), (0, 11, 18, 10)])
def m_La_drop : Mr := (16, ⟨"FormatForgeLaw", "drop", "(LFormatForge;II[J)I"⟩, method_13_code, 5, some .int, false, [(0, 10, 13, 11)])
def m_La_byteAt : Mr := (16, ⟨"FormatForgeLaw", "byteAt", "(LFormatForge;I[J)I"⟩, method_14_code, 4, some .int, false, [(0, 9, 12, 11)])
def m_La_count : Mr := (16, ⟨"FormatForgeLaw", "count", "(LFormatForge;I[J)I"⟩, method_15_code, 4, some .int, false, [(0, 9, 12, 9)])
def m_Ma_max_int : Mr := (17, ⟨"java/lang/Math", "max", "(II)I"⟩, prog_16_method_65_code, 2, some .int, false, [])
def m_Ma_max_long : Mr := (17, ⟨"java/lang/Math", "max", "(JJ)J"⟩, prog_16_method_66_code, 4, some .long, false, [])
def m_Ma_min_int : Mr := (17, ⟨"java/lang/Math", "min", "(II)I"⟩, prog_16_method_69_code, 2, some .int, false, [])
def m_Ma_min_long : Mr := (17, ⟨"java/lang/Math", "min", "(JJ)J"⟩, prog_16_method_70_code, 4, some .long, false, [])
def m_La_law : Mr := (16, x, code, 9, some .boolean, false, [])
def fld_0 : List (Nat × List Nat × Nat × Nat × Bool × String) := [(7, ([0], 0, 2, true, "FormatForge$Bytes")), (13, ([0], 1, 0, false, "FormatForge$Bytes"))]
def fld_1 : List (Nat × List Nat × Nat × Nat × Bool × String) := [(7, ([1], 0, 2, true, "FormatForge$Longs")), (13, ([1], 1, 0, false, "FormatForge$Longs"))]
def fld_2 : List (Nat × List Nat × Nat × Nat × Bool × String) := [(9, ([2], 0, 0, false, "FormatForge$Node")), (15, ([2], 6, 2, false, "FormatForge$Node")), (19, ([2], 2, 0, false, "FormatForge$Node")), (22, ([2], 1, 0, false, "FormatForge$Node")), (25, ([2], 3, 0, false, "FormatForge$Node")), (28, ([2], 4, 0, false, "FormatForge$Node")), (31, ([2], 5, 2, false, "FormatForge$Node")), (34, ([2], 7, 2, false, "FormatForge$Node")), (37, ([2], 8, 2, false, "FormatForge$Node")), (40, ([2], 9, 2, false, "FormatForge$Node")), (43, ([2], 10, 2, false, "FormatForge$Node")), (46, ([2], 11, 1, false, "FormatForge$Node")), (50, ([2], 12, 1, false, "FormatForge$Node")), (53, ([2], 13, 1, false, "FormatForge$Node")), (56, ([2], 14, 1, false, "FormatForge$Node")), (59, ([2], 15, 1, false, "FormatForge$Node"))]
def fld_3 : List (Nat × List Nat × Nat × Nat × Bool × String) := [(11, ([3], 0, 2, true, "FormatForge$Format")), (18, ([3], 1, 0, false, "FormatForge$Format")), (30, ([2], 13, 1, false, "FormatForge$Node")), (34, ([2], 14, 1, false, "FormatForge$Node")), (41, ([2], 11, 1, false, "FormatForge$Node")), (44, ([2], 12, 1, false, "FormatForge$Node")), (59, ([2], 0, 0, false, "FormatForge$Node")), (66, ([2], 6, 2, false, "FormatForge$Node")), (73, ([2], 8, 2, false, "FormatForge$Node")), (84, ([2], 5, 2, false, "FormatForge$Node")), (90, ([2], 4, 0, false, "FormatForge$Node")), (97, ([2], 7, 2, false, "FormatForge$Node")), (100, ([2], 2, 0, false, "FormatForge$Node")), (106, ([2], 9, 2, false, "FormatForge$Node")), (109, ([2], 3, 0, false, "FormatForge$Node")), (129, ([2], 1, 0, false, "FormatForge$Node"))]
def fld_4 : List (Nat × List Nat × Nat × Nat × Bool × String) := [(9, ([4], 0, 2, true, "FormatForge$Parser")), (15, ([4], 1, 2, true, "FormatForge$Parser")), (19, ([4], 2, 0, false, "FormatForge$Parser")), (32, ([0], 1, 0, false, "FormatForge$Bytes")), (53, ([2], 0, 0, false, "FormatForge$Node")), (65, ([2], 2, 0, false, "FormatForge$Node")), (105, ([2], 3, 0, false, "FormatForge$Node")), (108, ([2], 4, 0, false, "FormatForge$Node"))]
def fld_5 : List (Nat × List Nat × Nat × Nat × Bool × String) := [(9, ([5], 3, 2, true, "FormatForge$Reading")), (15, ([5], 4, 2, true, "FormatForge$Reading")), (23, ([2], 1, 0, false, "FormatForge$Node")), (29, ([0], 1, 0, false, "FormatForge$Bytes")), (34, ([2], 0, 0, false, "FormatForge$Node")), (45, ([5], 0, 0, false, "FormatForge$Reading")), (68, ([2], 15, 1, false, "FormatForge$Node"))]
def fld_6 : List (Nat × List Nat × Nat × Nat × Bool × String) := [(9, ([6], 3, 2, true, "FormatForge$Writing")), (15, ([6], 4, 2, true, "FormatForge$Writing")), (19, ([6], 5, 0, false, "FormatForge$Writing")), (23, ([6], 6, 1, false, "FormatForge$Writing")), (31, ([2], 1, 0, false, "FormatForge$Node")), (36, ([2], 0, 0, false, "FormatForge$Node")), (66, ([6], 0, 0, false, "FormatForge$Writing")), (69, ([2], 11, 1, false, "FormatForge$Node")), (72, ([2], 12, 1, false, "FormatForge$Node")), (75, ([2], 15, 1, false, "FormatForge$Node")), (78, ([1], 1, 0, false, "FormatForge$Longs"))]
def fld_7 : List (Nat × List Nat × Nat × Nat × Bool × String) := [(14, ([7], 0, 2, true, "FormatForge")), (18, ([7], 1, 2, true, "FormatForge")), (24, ([7], 2, 2, true, "FormatForge")), (28, ([7], 3, 2, true, "FormatForge")), (31, ([7], 4, 2, true, "FormatForge")), (37, ([7], 5, 2, false, "FormatForge")), (41, ([7], 6, 2, false, "FormatForge")), (44, ([7], 7, 3, false, "FormatForge")), (48, ([7], 8, 0, false, "FormatForge")), (52, ([7], 9, 0, false, "FormatForge")), (78, ([0], 1, 0, false, "FormatForge$Bytes")), (153, ([1], 1, 0, false, "FormatForge$Longs")), (160, ([6], 5, 0, false, "FormatForge$Writing")), (203, ([5, 6], 1, 0, false, "FormatForge$Course")), (206, ([5, 6], 2, 0, false, "FormatForge$Course"))]
def fld_8 : List (Nat × List Nat × Nat × Nat × Bool × String) := [(7, ([8], 1, 2, true, "FormatForgeModel")), (13, ([8], 3, 2, true, "FormatForgeModel")), (16, ([8], 6, 2, true, "FormatForgeModel")), (19, ([8], 8, 2, true, "FormatForgeModel")), (23, ([8], 10, 0, false, "FormatForgeModel")), (27, ([8], 11, 0, false, "FormatForgeModel")), (30, ([8], 12, 2, true, "FormatForgeModel")), (33, ([8], 13, 2, true, "FormatForgeModel")), (36, ([8], 14, 2, true, "FormatForgeModel")), (39, ([8], 15, 2, true, "FormatForgeModel")), (42, ([8], 16, 2, true, "FormatForgeModel")), (45, ([8], 17, 2, true, "FormatForgeModel")), (48, ([8], 18, 2, true, "FormatForgeModel")), (51, ([8], 19, 2, true, "FormatForgeModel")), (54, ([8], 20, 2, true, "FormatForgeModel")), (57, ([8], 21, 2, true, "FormatForgeModel")), (60, ([8], 22, 2, true, "FormatForgeModel")), (63, ([8], 24, 2, true, "FormatForgeModel")), (66, ([8], 25, 2, true, "FormatForgeModel")), (69, ([8], 26, 2, true, "FormatForgeModel")), (72, ([8], 27, 2, true, "FormatForgeModel")), (75, ([8], 29, 2, true, "FormatForgeModel")), (78, ([8], 30, 2, true, "FormatForgeModel")), (81, ([8], 31, 2, true, "FormatForgeModel")), (84, ([8], 32, 2, true, "FormatForgeModel")), (87, ([8], 33, 2, true, "FormatForgeModel")), (90, ([8], 34, 2, true, "FormatForgeModel")), (93, ([8], 35, 2, true, "FormatForgeModel")), (96, ([8], 36, 2, true, "FormatForgeModel")), (99, ([8], 37, 2, true, "FormatForgeModel")), (102, ([8], 38, 2, true, "FormatForgeModel")), (105, ([8], 44, 2, true, "FormatForgeModel")), (108, ([8], 45, 2, true, "FormatForgeModel")), (111, ([8], 0, 0, false, "FormatForgeModel")), (118, ([8], 2, 0, false, "FormatForgeModel")), (121, ([8], 28, 0, false, "FormatForgeModel")), (128, ([8], 23, 0, false, "FormatForgeModel")), (159, ([8], 4, 0, false, "FormatForgeModel")), (210, ([8], 5, 3, false, "FormatForgeModel")), (220, ([8], 7, 0, false, "FormatForgeModel")), (223, ([8], 41, 0, false, "FormatForgeModel")), (226, ([8], 42, 0, false, "FormatForgeModel")), (233, ([8], 46, 0, false, "FormatForgeModel")), (236, ([8], 9, 0, false, "FormatForgeModel")), (239, ([8], 43, 0, false, "FormatForgeModel")), (242, ([8], 40, 3, false, "FormatForgeModel")), (282, ([8], 47, 0, false, "FormatForgeModel")), (288, ([8], 48, 0, false, "FormatForgeModel")), (306, ([8], 39, 0, false, "FormatForgeModel"))]
def fld_9 : List (Nat × List Nat × Nat × Nat × Bool × String) := []
def fld_10 : List (Nat × List Nat × Nat × Nat × Bool × String) := []
def fld_11 : List (Nat × List Nat × Nat × Nat × Bool × String) := []
def fld_12 : List (Nat × List Nat × Nat × Nat × Bool × String) := []
def fld_13 : List (Nat × List Nat × Nat × Nat × Bool × String) := []
def fld_15 : List (Nat × List Nat × Nat × Nat × Bool × String) := [(9, ([5, 6], 0, 0, false, "FormatForge$Course")), (15, ([5, 6], 1, 0, false, "FormatForge$Course")), (18, ([5, 6], 2, 0, false, "FormatForge$Course")), (31, ([2], 0, 0, false, "FormatForge$Node")), (52, ([2], 2, 0, false, "FormatForge$Node")), (66, ([2], 9, 2, false, "FormatForge$Node")), (73, ([2], 8, 2, false, "FormatForge$Node")), (83, ([2], 3, 0, false, "FormatForge$Node")), (86, ([2], 5, 2, false, "FormatForge$Node")), (91, ([2], 15, 1, false, "FormatForge$Node"))]
def fld_16 : List (Nat × List Nat × Nat × Nat × Bool × String) := []
def fld_17 : List (Nat × List Nat × Nat × Nat × Bool × String) := []
def fldL (c : Nat) : List (Nat × List Nat × Nat × Nat × Bool × String) := match c with
  | 0 => fld_0
  | 1 => fld_1
  | 2 => fld_2
  | 3 => fld_3
  | 4 => fld_4
  | 5 => fld_5
  | 6 => fld_6
  | 7 => fld_7
  | 8 => fld_8
  | 9 => fld_9
  | 10 => fld_10
  | 11 => fld_11
  | 12 => fld_12
  | 13 => fld_13
  | 15 => fld_15
  | 16 => fld_16
  | 17 => fld_17
  | _ => []
def fldOf (c k : Nat) : Option (List Nat × Nat × Nat × Bool × String) := (fldL c).lookup k
def cst_0 : List (Nat × Value) := []
def cst_1 : List (Nat × Value) := []
def cst_2 : List (Nat × Value) := [(66, .long (-1))]
def cst_3 : List (Nat × Value) := [(54, .long (1000)), (125, .long (21)), (127, .long (120))]
def cst_4 : List (Nat × Value) := []
def cst_5 : List (Nat × Value) := []
def cst_6 : List (Nat × Value) := [(50, .long (20)), (60, .long (120)), (87, .long (255))]
def cst_7 : List (Nat × Value) := [(213, .long (4503599627370495)), (215, .long (4503599627370496)), (217, .double 13830554455654793216), (225, .double 4611686018427387904), (227, .double 4602678819172646912)]
def cst_8 : List (Nat × Value) := [(173, .long (2)), (175, .long (1000000)), (177, .long (4)), (179, .long (8)), (181, .long (21)), (183, .long (120)), (193, .long (1000)), (275, .long (20)), (277, .long (255)), (322, .long (2047)), (324, .long (4503599627370495)), (326, .double 9218868437227405312), (328, .double 4841369599423283200), (330, .double 4611686018427387904), (332, .double 4602678819172646912)]
def cst_9 : List (Nat × Value) := []
def cst_10 : List (Nat × Value) := []
def cst_11 : List (Nat × Value) := []
def cst_12 : List (Nat × Value) := []
def cst_13 : List (Nat × Value) := []
def cst_15 : List (Nat × Value) := [(89, .long (-1))]
def cst_16 : List (Nat × Value) := [(71, .long (4294967295))]
def cst_17 : List (Nat × Value) := []
def cstL (c : Nat) : List (Nat × Value) := match c with
  | 0 => cst_0
  | 1 => cst_1
  | 2 => cst_2
  | 3 => cst_3
  | 4 => cst_4
  | 5 => cst_5
  | 6 => cst_6
  | 7 => cst_7
  | 8 => cst_8
  | 9 => cst_9
  | 10 => cst_10
  | 11 => cst_11
  | 12 => cst_12
  | 13 => cst_13
  | 15 => cst_15
  | 16 => cst_16
  | 17 => cst_17
  | _ => []
def cstOf (c k : Nat) : Option (Value) := (cstL c).lookup k
def cls_0 : List (Nat × Nat × Nat) := []
def cls_1 : List (Nat × Nat × Nat) := []
def cls_2 : List (Nat × Nat × Nat) := []
def cls_3 : List (Nat × Nat × Nat) := [(9, (2, 16))]
def cls_4 : List (Nat × Nat × Nat) := []
def cls_5 : List (Nat × Nat × Nat) := []
def cls_6 : List (Nat × Nat × Nat) := []
def cls_7 : List (Nat × Nat × Nat) := [(7, (0, 2)), (21, (1, 2)), (34, (3, 2)), (59, (9, 6)), (70, (10, 6)), (84, (4, 3)), (93, (12, 6)), (107, (13, 6)), (128, (5, 5)), (144, (11, 6)), (154, (6, 7))]
def cls_8 : List (Nat × Nat × Nat) := []
def cls_9 : List (Nat × Nat × Nat) := []
def cls_10 : List (Nat × Nat × Nat) := []
def cls_11 : List (Nat × Nat × Nat) := []
def cls_12 : List (Nat × Nat × Nat) := []
def cls_13 : List (Nat × Nat × Nat) := []
def cls_15 : List (Nat × Nat × Nat) := []
def cls_16 : List (Nat × Nat × Nat) := [(8, (7, 10)), (68, (8, 49))]
def cls_17 : List (Nat × Nat × Nat) := []
def clsL (c : Nat) : List (Nat × Nat × Nat) := match c with
  | 0 => cls_0
  | 1 => cls_1
  | 2 => cls_2
  | 3 => cls_3
  | 4 => cls_4
  | 5 => cls_5
  | 6 => cls_6
  | 7 => cls_7
  | 8 => cls_8
  | 9 => cls_9
  | 10 => cls_10
  | 11 => cls_11
  | 12 => cls_12
  | 13 => cls_13
  | 15 => cls_15
  | 16 => cls_16
  | 17 => cls_17
  | _ => []
def clsOf (c k : Nat) : Option (Nat × Nat) := (clsL c).lookup k
def cal_0 : List (Nat × Nat × Nat × List (Nat × Mr)) := [(1, (3, 1, [])), (17, (0, 2, [(0, m_Ma_min_int)])), (23, (4, 5, []))]
def cal_1 : List (Nat × Nat × Nat × List (Nat × Mr)) := [(1, (3, 1, [])), (17, (4, 5, [])), (23, (0, 2, [(0, m_Ma_min_int)]))]
def cal_2 : List (Nat × Nat × Nat × List (Nat × Mr)) := [(3, (3, 1, [])), (62, (2, 1, [(2, m_No_mayBeNegative)])), (68, (0, 2, [(0, m_Ma_max_long)])), (74, (0, 2, [(0, m_Ma_min_long)]))]
def cal_3 : List (Nat × Nat × Nat × List (Nat × Mr)) := [(3, (3, 1, [])), (17, (1, 1, [(2, m_No_init)])), (22, (2, 4, [(2, m_No_become)])), (26, (2, 1, [(3, m_Fo_whole)])), (37, (0, 1, [(0, m_Fo_isInPlace)])), (47, (0, 1, [(0, m_Fo_findMeaning)])), (50, (0, 1, [(0, m_Fo_measure)])), (56, (0, 1, [(0, m_Fo_repeatsFittingly)])), (62, (2, 2, [(2, m_No_isPartOf)])), (70, (0, 1, [(0, m_Fo_isLastOfWhole)])), (76, (2, 1, [(2, m_No_hasKey)])), (80, (0, 1, [(0, m_Fo_fieldMeantIn)])), (87, (0, 1, [(0, m_Fo_hasGoodFigures)])), (93, (0, 2, [(0, m_Fo_latestBefore)])), (103, (2, 1, [(2, m_No_canBeMeant)])), (112, (2, 2, [(2, m_No_holds)])), (116, (0, 1, [(0, m_Fo_measureStructure)])), (119, (0, 1, [(0, m_Fo_measureArray)])), (122, (0, 1, [(0, m_Fo_measureChoice)])), (132, (0, 1, [(0, m_Fo_bytesFor)])), (136, (0, 2, [(0, m_Ma_max_long)])), (142, (0, 2, [(0, m_Ma_min_long)]))]
def cal_4 : List (Nat × Nat × Nat × List (Nat × Mr)) := [(3, (3, 1, [])), (23, (2, 1, [(3, m_Fo_forgetAll)])), (28, (2, 4, [(4, m_Pa_passType)])), (37, (2, 2, [(0, m_By_at)])), (41, (0, 2, [(0, m_Pa_beginsType)])), (45, (2, 4, [(3, m_Fo_fresh)])), (49, (2, 3, [(4, m_Pa_passTail)])), (58, (2, 3, [(4, m_Pa_passFields)])), (61, (2, 2, [(4, m_Pa_passKey)])), (68, (2, 4, [(4, m_Pa_passPart)])), (71, (2, 2, [(4, m_Pa_passSign)])), (75, (2, 3, [(4, m_Pa_passCases)])), (78, (2, 3, [(4, m_Pa_passWidth)])), (81, (2, 2, [(4, m_Pa_passLimit)])), (84, (2, 2, [(2, m_No_widenTo)])), (88, (2, 2, [(2, m_No_addPart)])), (92, (2, 3, [(4, m_Pa_passField)])), (95, (2, 1, [(4, m_Pa_passName)])), (99, (2, 3, [(4, m_Pa_passCase)])), (102, (2, 1, [(4, m_Pa_passFigure)])), (111, (2, 3, [(2, m_No_limitTo)])), (115, (0, 2, [(0, m_Ma_max_int)]))]
def cal_5 : List (Nat × Nat × Nat × List (Nat × Mr)) := [(3, (1, 1, [(5, m_Co_init), (6, m_Co_init)])), (19, (2, 1, [(5, m_Co_bytesPassed)])), (37, (2, 2, [(0, m_By_at)])), (41, (2, 1, [(2, m_No_mayBeNegative)])), (48, (2, 3, [(5, m_Re_keep)])), (52, (2, 1, [(5, m_Re_nextBit)])), (55, (2, 3, [(5, m_Re_keepBytes)])), (59, (2, 2, [(2, m_No_holds)])), (63, (2, 2, [(1, m_Lo_append)]))]
def cal_6 : List (Nat × Nat × Nat × List (Nat × Mr)) := [(3, (1, 1, [(5, m_Co_init), (6, m_Co_init)])), (27, (2, 2, [(6, m_Wr_takeFor)])), (39, (0, 2, [(0, m_Ff_byteOf)])), (43, (2, 2, [(6, m_Wr_make)])), (47, (2, 2, [(6, m_Wr_makeBit)])), (52, (2, 3, [(6, m_Wr_take)])), (56, (2, 3, [(6, m_Wr_makeBytes)])), (62, (2, 1, [(6, m_Co_bytesPassed)])), (83, (2, 2, [(1, m_Lo_at)])), (89, (2, 2, [(0, m_By_append)])), (95, (2, 2, [(0, m_By_markInLast)]))]
def cal_7 : List (Nat × Nat × Nat × List (Nat × Mr)) := [(1, (3, 1, [])), (11, (1, 2, [(0, m_By_init)])), (23, (1, 2, [(1, m_Lo_init)])), (36, (1, 1, [(3, m_Fo_init)])), (55, (0, 2, [(0, m_Ff_byteOf)])), (66, (2, 2, [(0, m_By_hasRoomFor)])), (75, (2, 2, [(0, m_By_append)])), (81, (2, 1, [(0, m_By_forgetAll)])), (86, (1, 3, [(4, m_Pa_init)])), (89, (2, 1, [(4, m_Pa_parse)])), (98, (2, 1, [(3, m_Fo_isSound)])), (104, (2, 1, [(3, m_Fo_most)])), (112, (2, 1, [(3, m_Fo_least)])), (121, (2, 2, [(0, m_By_shortenTo)])), (124, (2, 1, [(7, m_Ff_demandCompiled)])), (127, (2, 1, [(1, m_Lo_forgetAll)])), (130, (1, 3, [(5, m_Re_init)])), (133, (2, 2, [(5, m_Co_pass)])), (137, (2, 3, [(7, m_Ff_demandFine)])), (141, (2, 1, [(5, m_Co_bytesPassed)])), (149, (2, 2, [(1, m_Lo_becomeLike)])), (156, (1, 3, [(6, m_Wr_init)])), (159, (2, 2, [(6, m_Co_pass)])), (165, (2, 2, [(0, m_By_becomeLike)])), (168, (2, 2, [(7, m_Ff_demandValue)])), (171, (2, 2, [(1, m_Lo_at)])), (175, (0, 1, [(0, m_Ff_doubleOf)])), (181, (2, 3, [(1, m_Lo_replace)])), (185, (2, 2, [(1, m_Lo_append)])), (192, (2, 3, [(1, m_Lo_takeOut)])), (198, (2, 2, [(0, m_By_at)])), (219, (0, 2, [(0, m_Ma_max_int)]))]
def cal_8 : List (Nat × Nat × Nat × List (Nat × Mr)) := [(1, (3, 1, [])), (114, (2, 2, [(8, m_Mo_fail)])), (124, (2, 2, [(8, m_Mo_sized)])), (131, (2, 3, [(8, m_Mo_hang)])), (135, (2, 1, [(8, m_Mo_finish)])), (138, (2, 2, [(8, m_Mo_isDigit)])), (141, (2, 2, [(8, m_Mo_isName)])), (144, (2, 2, [(8, m_Mo_beginType)])), (147, (2, 2, [(8, m_Mo_inSized)])), (150, (2, 2, [(8, m_Mo_inStructure)])), (153, (2, 2, [(8, m_Mo_inChoice)])), (156, (2, 2, [(8, m_Mo_inMany)])), (162, (2, 2, [(8, m_Mo_sign)])), (165, (2, 1, [(8, m_Mo_wholeNow)])), (169, (2, 2, [(8, m_Mo_scan)])), (185, (2, 2, [(8, m_Mo_sumFields)])), (189, (2, 2, [(8, m_Mo_capped)])), (195, (2, 2, [(8, m_Mo_goodCases)])), (198, (2, 2, [(8, m_Mo_interval)])), (201, (2, 2, [(8, m_Mo_find)])), (204, (2, 2, [(8, m_Mo_measure)])), (207, (2, 2, [(8, m_Mo_soundNode)])), (214, (2, 1, [(8, m_Mo_soundAll)])), (217, (2, 1, [(8, m_Mo_restore)])), (229, (2, 2, [(8, m_Mo_wrong)])), (245, (2, 1, [(8, m_Mo_nextByte)])), (249, (2, 2, [(8, m_Mo_putByte)])), (252, (2, 1, [(8, m_Mo_take)])), (256, (2, 3, [(8, m_Mo_writeBits)])), (260, (2, 3, [(8, m_Mo_writeNumber)])), (264, (2, 2, [(8, m_Mo_readBits)])), (268, (2, 2, [(8, m_Mo_readNumber)])), (271, (2, 2, [(8, m_Mo_give)])), (279, (2, 1, [(8, m_Mo_rest)])), (285, (2, 2, [(8, m_Mo_nameAround)])), (291, (2, 2, [(8, m_Mo_sizedUnit)])), (294, (2, 2, [(8, m_Mo_floating)])), (297, (2, 2, [(8, m_Mo_writeWords)])), (300, (2, 2, [(8, m_Mo_words)])), (303, (2, 2, [(8, m_Mo_unit)])), (309, (2, 2, [(8, m_Mo_enter)])), (312, (2, 1, [(8, m_Mo_goOn)])), (315, (2, 2, [(8, m_Mo_pass)])), (318, (2, 3, [(8, m_Mo_out)]))]
def cal_9 : List (Nat × Nat × Nat × List (Nat × Mr)) := []
def cal_10 : List (Nat × Nat × Nat × List (Nat × Mr)) := []
def cal_11 : List (Nat × Nat × Nat × List (Nat × Mr)) := []
def cal_12 : List (Nat × Nat × Nat × List (Nat × Mr)) := []
def cal_13 : List (Nat × Nat × Nat × List (Nat × Mr)) := []
def cal_15 : List (Nat × Nat × Nat × List (Nat × Mr)) := [(3, (3, 1, [])), (21, (2, 1, [(3, m_Fo_whole)])), (27, (2, 3, [(5, m_Co_passType), (6, m_Co_passType)])), (36, (2, 3, [(5, m_Co_passFields), (6, m_Co_passFields)])), (39, (2, 3, [(5, m_Co_passCounted), (6, m_Co_passCounted)])), (42, (2, 3, [(5, m_Co_passSized), (6, m_Co_passSized)])), (45, (2, 3, [(5, m_Co_passChoice), (6, m_Co_passChoice)])), (48, (2, 2, [(5, m_Co_passUnit), (6, m_Co_passUnit)])), (53, (2, 2, [(5, m_Re_passBits), (6, m_Wr_passBits)])), (56, (2, 1, [(5, m_Re_passWords), (6, m_Wr_passWords)])), (60, (2, 1, [(5, m_Re_passRest), (6, m_Wr_passRest)])), (63, (2, 2, [(5, m_Re_passNumber), (6, m_Wr_passNumber)])), (70, (2, 1, [(5, m_Re_passSpare), (6, m_Wr_passSpare)])), (76, (0, 1, [(0, m_Co_told)])), (80, (2, 1, [(5, m_Co_bytesPassed), (6, m_Co_bytesPassed)]))]
def cal_16 : List (Nat × Nat × Nat × List (Nat × Mr)) := [(7, (2, 2, [(7, m_Ff_type)])), (17, (2, 1, [(7, m_Ff_compile)])), (23, (2, 2, [(7, m_Ff_size)])), (29, (2, 3, [(7, m_Ff_put)])), (33, (2, 2, [(7, m_Ff_cut)])), (37, (2, 1, [(7, m_Ff_read)])), (42, (2, 1, [(7, m_Ff_write)])), (45, (2, 2, [(7, m_Ff_value)])), (49, (2, 2, [(7, m_Ff_real)])), (53, (2, 3, [(7, m_Ff_set)])), (57, (2, 3, [(7, m_Ff_drop)])), (61, (2, 2, [(7, m_Ff_byteAt)])), (64, (2, 2, [(7, m_Ff_count)])), (67, (1, 1, [(7, m_Ff_init)])), (70, (1, 1, [(8, m_Mo_init)])), (73, (0, 3, [(0, m_La_type)])), (78, (2, 2, [(8, m_Mo_type)])), (79, (2, 1, [(8, m_Mo_thrown)])), (82, (2, 1, [(7, m_Ff_clear)])), (85, (2, 1, [(8, m_Mo_clear)])), (86, (2, 1, [(7, m_Ff_fault)])), (89, (2, 1, [(8, m_Mo_fault)])), (90, (0, 2, [(0, m_La_compile)])), (93, (2, 1, [(8, m_Mo_compile)])), (94, (0, 3, [(0, m_La_size)])), (97, (2, 2, [(8, m_Mo_size)])), (98, (0, 4, [(0, m_La_put)])), (101, (2, 3, [(8, m_Mo_put)])), (102, (0, 3, [(0, m_La_cut)])), (105, (2, 2, [(8, m_Mo_cut)])), (106, (0, 2, [(0, m_La_read)])), (108, (2, 1, [(8, m_Mo_read)])), (109, (0, 2, [(0, m_La_write)])), (111, (2, 1, [(8, m_Mo_write)])), (112, (0, 3, [(0, m_La_value)])), (114, (2, 2, [(8, m_Mo_value)])), (115, (0, 3, [(0, m_La_real)])), (118, (2, 2, [(8, m_Mo_real)])), (119, (0, 4, [(0, m_La_set)])), (122, (2, 3, [(8, m_Mo_set)])), (123, (0, 4, [(0, m_La_drop)])), (126, (2, 3, [(8, m_Mo_drop)])), (127, (0, 3, [(0, m_La_byteAt)])), (129, (2, 2, [(8, m_Mo_byteAt)])), (130, (0, 3, [(0, m_La_count)])), (132, (2, 2, [(8, m_Mo_count)]))]
def cal_17 : List (Nat × Nat × Nat × List (Nat × Mr)) := []
def calL (c : Nat) : List (Nat × Nat × Nat × List (Nat × Mr)) := match c with
  | 0 => cal_0
  | 1 => cal_1
  | 2 => cal_2
  | 3 => cal_3
  | 4 => cal_4
  | 5 => cal_5
  | 6 => cal_6
  | 7 => cal_7
  | 8 => cal_8
  | 9 => cal_9
  | 10 => cal_10
  | 11 => cal_11
  | 12 => cal_12
  | 13 => cal_13
  | 15 => cal_15
  | 16 => cal_16
  | 17 => cal_17
  | _ => []
def calOf (c k : Nat) : Option (Nat × Nat × List (Nat × Mr)) := (calL c).lookup k
def strT : List (Nat × Nat × String) := [(7, 61, "a sign is none of 33 .. 126"), (7, 72, "the text would be too long"), (7, 95, "the text is no whole type"), (7, 102, "the text is not sound"), (7, 109, "nothing is compiled"), (7, 115, "count is none of 1 .. 8"), (7, 117, "the message would be too long"), (7, 119, "length is none of 0 .. the message's"), (7, 207, "something is needed but not there"), (7, 209, "something is wrong"), (7, 146, "bytes are left"), (7, 163, "values are left"), (7, 211, "there is no such value"), (7, 179, "i is none of 0 .. how many values there are"), (7, 188, "there would be too many values"), (7, 190, "there are not that many values"), (7, 196, "there is no such byte"), (7, 201, "what is none of 0 .. 5")]
def excT : List (Nat × Nat × Nat) := [(7, 63, 9), (7, 74, 10), (7, 97, 12), (7, 111, 13), (7, 148, 11)]
end
section
/-- what an instruction does: goes on, ends the method, or calls (the method, its arguments, the stack below them) -/
abbrev Ac : Type := (Nat × Lc × List Value × Hp) ⊕ ((Rs × Hp) ⊕ (Mr × List Value × List Value))
def fV (h : Hp) (a j t : Nat) : Value := match t with | 0 => .int (hI h a j) | 1 => .long (hL h a j) | 2 => .ref (hR h a j) | _ => .int (hI h a j)
/-- putting a value of the right kind -/
def pV (h : Hp) (a j t : Nat) (v : Value) : Option Hp := match t, v with
  | 0, .int x => some (sI h a j x)
  | 1, .long x => some (sL h a j x)
  | 2, .ref x => some (sR h a j x)
  | 3, .int x => if x = 0 ∨ x = 1 then some (sI h a j x) else none
  | _, _ => none
def ainr (i : Int32) (n : Nat) : Bool := !(decide (i < 0) || decide (n ≤ i.toNatClampNeg))
/-- 'throw new E("..")' as javac writes it -/
def thr (m : Mr) (pc c : Nat) : Bool := match decode (mB m) (pc + 3), decode (mB m) (pc + 4), decode (mB m) (pc + 6), decode (mB m) (pc + 9) with
  | .ok (.dup, 1), .ok (.ldc s, 2), .ok (.invokespecial ic, 3), .ok (.athrow, 1) => (strT.any fun q => q.1 == mC m && q.2.1 == s) && excT.contains (mC m, ic, c) && (mH m).isEmpty
  | _, _, _, _ => false
/-- the arguments, last first, off the stack -/
def args? (n : Nat) (st : List Value) : Option (List Value × List Value) := if n ≤ st.length then some ((st.take n).reverse, st.drop n) else none
def narrowOk (ty : FieldType) : Bool := match ty with | .int => true | .boolean => true | .byte => true | .short => true | .char => true | _ => false
def isRefT (ty : FieldType) : Bool := match ty with | .object _ => true | .array _ => true | _ => false
def retA (m : Mr) (v : Value) (h : Hp) : Option Ac := match mR m, v with
  | some .int, .int x => some (.inr (.inl (.inl (some (.int x)), h)))
  | some .boolean, .int x => some (.inr (.inl (.inl (some (narrow .boolean (.int x))), h)))
  | some .long, .long x => some (.inr (.inl (.inl (some (.long x)), h)))
  | some .double, .double x => some (.inr (.inl (.inl (some (.double x)), h)))
  | some (.object _), .ref x => some (.inr (.inl (.inl (some (.ref x)), h)))
  | _, _ => none
def gF (m : Mr) (k pc : Nat) (l : Lc) (st : List Value) (h : Hp) : Option Ac := match fldOf (mC m) k, st with
  | some (cs, j, t, _, _), .ref a :: r => if cs.contains (hS h a).1 = true then some (.inl (pc + 3, l, fV h a j t :: r, h)) else none
  | _, _ => none
def pF (m : Mr) (k pc : Nat) (l : Lc) (st : List Value) (h : Hp) : Option Ac := match fldOf (mC m) k, st with
  | some (cs, j, t, fin, _), v :: .ref a :: r => if cs.contains (hS h a).1 = true ∧ (fin = false ∨ mI m = true) then (match pV h a j t v with | some h' => some (.inl (pc + 3, l, r, h')) | none => none) else none
  | _, _ => none
def aLd (k : Nat) (f : Hp → Nat → Nat → Value) (pc : Nat) (l : Lc) (st : List Value) (h : Hp) : Option Ac := match st with
  | .int i :: .ref a :: r => if (hS h a).1 = k ∧ ainr i (hS h a).2 = true then some (.inl (pc + 1, l, f h a i.toNatClampNeg :: r, h)) else none
  | _ => none
def aSt (k : Nat) (f : Hp → Nat → Nat → Value → Option Hp) (pc : Nat) (l : Lc) (st : List Value) (h : Hp) : Option Ac := match st with
  | v :: .int i :: .ref a :: r => if (hS h a).1 = k ∧ ¬ a = 1 ∧ ainr i (hS h a).2 = true then (match f h a i.toNatClampNeg v with | some h' => some (.inl (pc + 1, l, r, h')) | none => none) else none
  | _ => none
def stI (h : Hp) (a j : Nat) (v : Value) : Option Hp := match v with | .int x => some (sI h a j x) | _ => none
def stB (h : Hp) (a j : Nat) (v : Value) : Option Hp := match v with | .int x => some (sI h a j x.toInt8.toInt32) | _ => none
def stL (h : Hp) (a j : Nat) (v : Value) : Option Hp := match v with | .long x => some (sL h a j x) | _ => none
def stD (h : Hp) (a j : Nat) (v : Value) : Option Hp := match v with | .double x => some (sD h a j x) | _ => none
def stR (h : Hp) (a j : Nat) (v : Value) : Option Hp := match v with | .ref x => if (hS h x).1 = 2 then some (sR h a j x) else none | _ => none
def room (h : Hp) (n : Nat) : Bool := decide (hN h < capN) && decide (hU h + n ≤ capU)
def isArr (k : Nat) : Bool := k == 20 || k == 21 || k == 22 || k == 23 || k == 24
def nwA (k : Nat) (pc : Nat) (l : Lc) (st : List Value) (h : Hp) : Option Ac := match st with
  | .int n :: r => if ¬ n < 0 ∧ n.toNatClampNeg ≤ 100000 ∧ room h n.toNatClampNeg = true then some (.inl (pc, l, .ref (hN h) :: r, hNew h k n.toNatClampNeg n.toNatClampNeg)) else none
  | _ => none
def atk (t : ClassFile.ArrayType) : Option Nat := match t with | .int => some 20 | .long => some 21 | .byte => some 22 | .double => some 23 | _ => none
/-- 'System.arraycopy' between two arrays of ints, bytes or longs -/
def cpA (pc : Nat) (l : Lc) (st : List Value) (h : Hp) : Option Ac := match st with
  | .int n :: .int j :: .ref b :: .int i :: .ref a :: r =>
    if ¬ n < 0 ∧ ¬ j < 0 ∧ ¬ i < 0 ∧ ¬ a = 1 ∧ ¬ b = 1 ∧ (hS h a).1 = (hS h b).1 ∧ ((hS h b).1 = 22 ∨ (hS h b).1 = 21) ∧ i.toNatClampNeg + n.toNatClampNeg ≤ (hS h a).2 ∧ j.toNatClampNeg + n.toNatClampNeg ≤ (hS h b).2 ∧ r.length ≤ 16
    then some (.inl (pc + 3, l, r, if (hS h b).1 = 22 then cI h a i.toNatClampNeg b j.toNatClampNeg n.toNatClampNeg else cL h a i.toNatClampNeg b j.toNatClampNeg n.toNatClampNeg)) else none
  | _ => none
/-- a call: kind 0 static, 1 <init>, 2 virtual, 3 Object.<init>, 4 System.arraycopy -/
def cA (kd : Nat) (m : Mr) (k pc : Nat) (l : Lc) (st : List Value) (h : Hp) : Option Ac := match calOf (mC m) k with
  | none => none
  | some (kind, n, ts) =>
    if kind = 3 ∧ kd = 1 then (match st with | .ref a :: r => if 2 ≤ a ∧ a < hN h ∧ r.length ≤ 16 then some (.inl (pc + 3, l, r, h)) else none | _ => none)
    else if kind = 4 ∧ kd = 0 then cpA pc l st h
    else if ¬ kind = kd then none
    else match args? n st with
      | none => none
      | some (as, r) => if ¬ r.length ≤ 16 then none else match kind with
        | 0 => (match ts with | [(_, m')] => some (.inr (.inr (m', as, r))) | _ => none)
        | _ => (match as with
          | .ref a :: _ => (match ts.find? (fun q => q.1 == (hS h a).1) with | some q => some (.inr (.inr (q.2, as, r))) | none => none)
          | _ => none)
def stA (m : Mr) (i : Instr) (n pc : Nat) (l : Lc) (st : List Value) (h : Hp) : Option Ac := match i with
  | .getfield k => if n = 3 then gF m k pc l st h else none
  | .putfield k => if n = 3 then pF m k pc l st h else none
  | .iaload => if n = 1 then aLd 20 (fun h a j => .int (hI h a j)) pc l st h else none
  | .baload => if n = 1 then aLd 22 (fun h a j => .int (hI h a j)) pc l st h else none
  | .laload => if n = 1 then aLd 21 (fun h a j => .long (hL h a j)) pc l st h else none
  | .daload => if n = 1 then aLd 23 (fun h a j => .double (hD h a j)) pc l st h else none
  | .aaload => if n = 1 then aLd 24 (fun h a j => .ref (hR h a j)) pc l st h else none
  | .iastore => if n = 1 then aSt 20 stI pc l st h else none
  | .bastore => if n = 1 then aSt 22 stB pc l st h else none
  | .lastore => if n = 1 then aSt 21 stL pc l st h else none
  | .dastore => if n = 1 then aSt 23 stD pc l st h else none
  | .aastore => if n = 1 then aSt 24 stR pc l st h else none
  | .arraylength => if n = 1 then (match st with | .ref a :: r => if isArr (hS h a).1 = true then some (.inl (pc + 1, l, .int (Int32.ofNat (hS h a).2) :: r, h)) else none | _ => none) else none
  | .new k => if n = 3 then (match clsOf (mC m) k with
      | some (c, sz) => if 9 ≤ c then (if thr m pc c = true ∧ room h 6 = true then some (.inr (.inl (.inr (hN h), hNew h c 0 6))) else none)
          else (if room h sz = true then some (.inl (pc + 3, l, .ref (hN h) :: st, hNew h c 0 sz)) else none)
      | none => none) else none
  | .newarray t => if n = 2 then (match atk t with | some k => nwA k (pc + 2) l st h | none => none) else none
  | .anewarray k => if n = 3 ∧ clsOf (mC m) k = some (2, 16) then nwA 24 (pc + 3) l st h else none
  | .invokestatic k => if n = 3 then cA 0 m k pc l st h else none
  | .invokespecial k => if n = 3 then cA 1 m k pc l st h else none
  | .invokevirtual k => if n = 3 then cA 2 m k pc l st h else none
  | .ldc2_w k => if n = 3 then (match cstOf (mC m) k with | some v => some (.inl (pc + 3, l, v :: st, h)) | none => none) else none
  | .ireturn => if n = 1 then (match st with | [.int x] => retA m (.int x) h | _ => none) else none
  | .lreturn => if n = 1 then (match st with | [.long x] => retA m (.long x) h | _ => none) else none
  | .dreturn => if n = 1 then (match st with | [.double x] => retA m (.double x) h | _ => none) else none
  | .areturn => if n = 1 then (match st with | [.ref x] => retA m (.ref x) h | _ => none) else none
  | .return_ => if n = 1 ∧ mR m = none then (match st with | [] => some (.inr (.inl (.inl none, h))) | _ => none) else none
  | .dadd => if n = 1 then (match st with | .double y :: .double x :: r => if (FP.dadd x y) &&& 0x7fffffffffffffff ≤ 0x7ff0000000000000 then some (.inl (pc + 1, l, .double (FP.dadd x y) :: r, h)) else none | _ => none) else none
  | .dmul => if n = 1 then (match st with | .double y :: .double x :: r => if (FP.dmul x y) &&& 0x7fffffffffffffff ≤ 0x7ff0000000000000 then some (.inl (pc + 1, l, .double (FP.dmul x y) :: r, h)) else none | _ => none) else none
  | .idiv => if n = 1 then (match st with | .int y :: .int x :: r => if ¬ y = 0 then some (.inl (pc + 1, l, .int (x / y) :: r, h)) else none | _ => none) else none
  | .irem => if n = 1 then (match st with | .int y :: .int x :: r => if ¬ y = 0 then some (.inl (pc + 1, l, .int (x - x / y * y) :: r, h)) else none | _ => none) else none
  | .ldiv => if n = 1 then (match st with | .long y :: .long x :: r => if ¬ y = 0 then some (.inl (pc + 1, l, .long (x / y) :: r, h)) else none | _ => none) else none
  | i => match pS i n pc l st with | some (pc', l', st') => some (.inl (pc', l', st', h)) | none => none
def lc0 (m : Mr) (as : List Value) : Lc := let s := as.flatMap (fun v => if v.category = 2 then [some v, none] else [some v]); s ++ List.replicate (mL m - s.length) none
def hnd (m : Mr) (pc k : Nat) : Option Nat := ((mH m).find? (fun e => decide (e.1 ≤ pc) && decide (pc < e.2.1) && e.2.2.2 == k)).map (·.2.2.1)
/-- how a method ends, from a point of it: f steps, d calls deep -/
def ev : Nat → Nat → Mr → Nat → Lc → List Value → Hp → Option (Rs × Hp)
  | 0, _, _, _, _, _, _ => none
  | f + 1, d, m, pc, l, st, h => match decode (mB m) pc with
    | .error _ => none
    | .ok (i, n) => match stA m i n pc l st h with
      | none => none
      | some (.inl (pc', l', st', h')) => ev f d m pc' l' st' h'
      | some (.inr (.inl r)) => some r
      | some (.inr (.inr (m', as, r))) => match d with
        | 0 => none
        | d' + 1 => match ev f d' m' 0 (lc0 m' as) [] h with
          | none => none
          | some (.inl v, h') => ev f (d' + 1) m (pc + 3) l (v.toList ++ r) h'
          | some (.inr x, h') => (match hnd m pc (hS h' x).1 with
            | some q => ev f (d' + 1) m q l [.ref x] h'
            | none => some (.inr x, h'))
end
