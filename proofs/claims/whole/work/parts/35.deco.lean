theorem d_Mo_capped_0 : decode (mB m_Mo_capped) 0 = .ok (.lload_n 1, 1) := by decide +kernel
theorem d_Mo_capped_1 : decode (mB m_Mo_capped) 1 = .ok (.ldc2_w 175, 3) := by decide +kernel
theorem d_Mo_capped_4 : decode (mB m_Mo_capped) 4 = .ok (.lcmp, 1) := by decide +kernel
theorem d_Mo_capped_5 : decode (mB m_Mo_capped) 5 = .ok (.ifCond .le 9, 3) := by decide +kernel
theorem d_Mo_capped_8 : decode (mB m_Mo_capped) 8 = .ok (.ldc2_w 175, 3) := by decide +kernel
theorem d_Mo_capped_11 : decode (mB m_Mo_capped) 11 = .ok (.goto 4, 3) := by decide +kernel
theorem d_Mo_capped_14 : decode (mB m_Mo_capped) 14 = .ok (.lload_n 1, 1) := by decide +kernel
theorem d_Mo_capped_15 : decode (mB m_Mo_capped) 15 = .ok (.lreturn, 1) := by decide +kernel
theorem d_Mo_sumFields_0 : decode (mB m_Mo_sumFields) 0 = .ok (.iconst 0, 1) := by decide +kernel
theorem d_Mo_sumFields_1 : decode (mB m_Mo_sumFields) 1 = .ok (.istore_n 2, 1) := by decide +kernel
theorem d_Mo_sumFields_2 : decode (mB m_Mo_sumFields) 2 = .ok (.aload_n 0, 1) := by decide +kernel
theorem d_Mo_sumFields_3 : decode (mB m_Mo_sumFields) 3 = .ok (.getfield 81, 3) := by decide +kernel
theorem d_Mo_sumFields_6 : decode (mB m_Mo_sumFields) 6 = .ok (.iload_n 1, 1) := by decide +kernel
theorem d_Mo_sumFields_7 : decode (mB m_Mo_sumFields) 7 = .ok (.lconst 0, 1) := by decide +kernel
theorem d_Mo_sumFields_8 : decode (mB m_Mo_sumFields) 8 = .ok (.lastore, 1) := by decide +kernel
theorem d_Mo_sumFields_9 : decode (mB m_Mo_sumFields) 9 = .ok (.aload_n 0, 1) := by decide +kernel
theorem d_Mo_sumFields_10 : decode (mB m_Mo_sumFields) 10 = .ok (.getfield 84, 3) := by decide +kernel
theorem d_Mo_sumFields_13 : decode (mB m_Mo_sumFields) 13 = .ok (.iload_n 1, 1) := by decide +kernel
theorem d_Mo_sumFields_14 : decode (mB m_Mo_sumFields) 14 = .ok (.lconst 0, 1) := by decide +kernel
theorem d_Mo_sumFields_15 : decode (mB m_Mo_sumFields) 15 = .ok (.lastore, 1) := by decide +kernel
theorem d_Mo_sumFields_16 : decode (mB m_Mo_sumFields) 16 = .ok (.aload_n 0, 1) := by decide +kernel
theorem d_Mo_sumFields_17 : decode (mB m_Mo_sumFields) 17 = .ok (.getfield 54, 3) := by decide +kernel
theorem d_Mo_sumFields_20 : decode (mB m_Mo_sumFields) 20 = .ok (.iload_n 1, 1) := by decide +kernel
theorem d_Mo_sumFields_21 : decode (mB m_Mo_sumFields) 21 = .ok (.iaload, 1) := by decide +kernel
theorem d_Mo_sumFields_22 : decode (mB m_Mo_sumFields) 22 = .ok (.istore_n 3, 1) := by decide +kernel
theorem d_Mo_sumFields_23 : decode (mB m_Mo_sumFields) 23 = .ok (.iload_n 3, 1) := by decide +kernel
theorem d_Mo_sumFields_24 : decode (mB m_Mo_sumFields) 24 = .ok (.ifCond .lt 148, 3) := by decide +kernel
theorem d_Mo_sumFields_27 : decode (mB m_Mo_sumFields) 27 = .ok (.aload_n 0, 1) := by decide +kernel
theorem d_Mo_sumFields_28 : decode (mB m_Mo_sumFields) 28 = .ok (.getfield 30, 3) := by decide +kernel
theorem d_Mo_sumFields_31 : decode (mB m_Mo_sumFields) 31 = .ok (.iload_n 3, 1) := by decide +kernel
theorem d_Mo_sumFields_32 : decode (mB m_Mo_sumFields) 32 = .ok (.iaload, 1) := by decide +kernel
theorem d_Mo_sumFields_33 : decode (mB m_Mo_sumFields) 33 = .ok (.bipush 112, 2) := by decide +kernel
theorem d_Mo_sumFields_35 : decode (mB m_Mo_sumFields) 35 = .ok (.if_icmp .ne 12, 3) := by decide +kernel
theorem d_Mo_sumFields_38 : decode (mB m_Mo_sumFields) 38 = .ok (.iload_n 2, 1) := by decide +kernel
theorem d_Mo_sumFields_39 : decode (mB m_Mo_sumFields) 39 = .ok (.aload_n 0, 1) := by decide +kernel
theorem d_Mo_sumFields_40 : decode (mB m_Mo_sumFields) 40 = .ok (.getfield 33, 3) := by decide +kernel
theorem d_Mo_sumFields_43 : decode (mB m_Mo_sumFields) 43 = .ok (.iload_n 3, 1) := by decide +kernel
theorem d_Mo_sumFields_44 : decode (mB m_Mo_sumFields) 44 = .ok (.iaload, 1) := by decide +kernel
theorem d_Mo_sumFields_45 : decode (mB m_Mo_sumFields) 45 = .ok (.iadd, 1) := by decide +kernel
theorem d_Mo_sumFields_46 : decode (mB m_Mo_sumFields) 46 = .ok (.istore_n 2, 1) := by decide +kernel
theorem d_Mo_sumFields_47 : decode (mB m_Mo_sumFields) 47 = .ok (.aload_n 0, 1) := by decide +kernel
theorem d_Mo_sumFields_48 : decode (mB m_Mo_sumFields) 48 = .ok (.getfield 30, 3) := by decide +kernel
theorem d_Mo_sumFields_51 : decode (mB m_Mo_sumFields) 51 = .ok (.iload_n 3, 1) := by decide +kernel
theorem d_Mo_sumFields_52 : decode (mB m_Mo_sumFields) 52 = .ok (.iaload, 1) := by decide +kernel
theorem d_Mo_sumFields_53 : decode (mB m_Mo_sumFields) 53 = .ok (.bipush 112, 2) := by decide +kernel
theorem d_Mo_sumFields_55 : decode (mB m_Mo_sumFields) 55 = .ok (.if_icmp .ne 31, 3) := by decide +kernel
theorem d_Mo_sumFields_58 : decode (mB m_Mo_sumFields) 58 = .ok (.aload_n 0, 1) := by decide +kernel
theorem d_Mo_sumFields_59 : decode (mB m_Mo_sumFields) 59 = .ok (.getfield 57, 3) := by decide +kernel
theorem d_Mo_sumFields_62 : decode (mB m_Mo_sumFields) 62 = .ok (.iload_n 3, 1) := by decide +kernel
theorem d_Mo_sumFields_63 : decode (mB m_Mo_sumFields) 63 = .ok (.iaload, 1) := by decide +kernel
theorem d_Mo_sumFields_64 : decode (mB m_Mo_sumFields) 64 = .ok (.ifCond .lt 22, 3) := by decide +kernel
theorem d_Mo_sumFields_67 : decode (mB m_Mo_sumFields) 67 = .ok (.aload_n 0, 1) := by decide +kernel
theorem d_Mo_sumFields_68 : decode (mB m_Mo_sumFields) 68 = .ok (.getfield 30, 3) := by decide +kernel
theorem d_Mo_sumFields_71 : decode (mB m_Mo_sumFields) 71 = .ok (.aload_n 0, 1) := by decide +kernel
theorem d_Mo_sumFields_72 : decode (mB m_Mo_sumFields) 72 = .ok (.getfield 57, 3) := by decide +kernel
theorem d_Mo_sumFields_75 : decode (mB m_Mo_sumFields) 75 = .ok (.iload_n 3, 1) := by decide +kernel
theorem d_Mo_sumFields_76 : decode (mB m_Mo_sumFields) 76 = .ok (.iaload, 1) := by decide +kernel
theorem d_Mo_sumFields_77 : decode (mB m_Mo_sumFields) 77 = .ok (.iaload, 1) := by decide +kernel
theorem d_Mo_sumFields_78 : decode (mB m_Mo_sumFields) 78 = .ok (.bipush 112, 2) := by decide +kernel
theorem d_Mo_sumFields_80 : decode (mB m_Mo_sumFields) 80 = .ok (.if_icmp .ne 6, 3) := by decide +kernel
theorem d_Mo_sumFields_83 : decode (mB m_Mo_sumFields) 83 = .ok (.goto 79, 3) := by decide +kernel
theorem d_Mo_sumFields_86 : decode (mB m_Mo_sumFields) 86 = .ok (.aload_n 0, 1) := by decide +kernel
theorem d_Mo_sumFields_87 : decode (mB m_Mo_sumFields) 87 = .ok (.getfield 81, 3) := by decide +kernel
theorem d_Mo_sumFields_90 : decode (mB m_Mo_sumFields) 90 = .ok (.iload_n 1, 1) := by decide +kernel
theorem d_Mo_sumFields_91 : decode (mB m_Mo_sumFields) 91 = .ok (.dup2, 1) := by decide +kernel
theorem d_Mo_sumFields_92 : decode (mB m_Mo_sumFields) 92 = .ok (.laload, 1) := by decide +kernel
theorem d_Mo_sumFields_93 : decode (mB m_Mo_sumFields) 93 = .ok (.aload_n 0, 1) := by decide +kernel
theorem d_Mo_sumFields_94 : decode (mB m_Mo_sumFields) 94 = .ok (.getfield 30, 3) := by decide +kernel
theorem d_Mo_sumFields_97 : decode (mB m_Mo_sumFields) 97 = .ok (.iload_n 3, 1) := by decide +kernel
theorem d_Mo_sumFields_98 : decode (mB m_Mo_sumFields) 98 = .ok (.iaload, 1) := by decide +kernel
theorem d_Mo_sumFields_99 : decode (mB m_Mo_sumFields) 99 = .ok (.bipush 112, 2) := by decide +kernel
theorem d_Mo_sumFields_101 : decode (mB m_Mo_sumFields) 101 = .ok (.if_icmp .ne 14, 3) := by decide +kernel
theorem d_Mo_sumFields_104 : decode (mB m_Mo_sumFields) 104 = .ok (.iload_n 2, 1) := by decide +kernel
theorem d_Mo_sumFields_105 : decode (mB m_Mo_sumFields) 105 = .ok (.bipush 7, 2) := by decide +kernel
theorem d_Mo_sumFields_107 : decode (mB m_Mo_sumFields) 107 = .ok (.iadd, 1) := by decide +kernel
theorem d_Mo_sumFields_108 : decode (mB m_Mo_sumFields) 108 = .ok (.bipush 8, 2) := by decide +kernel
theorem d_Mo_sumFields_110 : decode (mB m_Mo_sumFields) 110 = .ok (.idiv, 1) := by decide +kernel
theorem d_Mo_sumFields_111 : decode (mB m_Mo_sumFields) 111 = .ok (.i2l, 1) := by decide +kernel
theorem d_Mo_sumFields_112 : decode (mB m_Mo_sumFields) 112 = .ok (.goto 9, 3) := by decide +kernel
theorem d_Mo_sumFields_115 : decode (mB m_Mo_sumFields) 115 = .ok (.aload_n 0, 1) := by decide +kernel
theorem d_Mo_sumFields_116 : decode (mB m_Mo_sumFields) 116 = .ok (.getfield 81, 3) := by decide +kernel
theorem d_Mo_sumFields_119 : decode (mB m_Mo_sumFields) 119 = .ok (.iload_n 3, 1) := by decide +kernel
theorem d_Mo_sumFields_120 : decode (mB m_Mo_sumFields) 120 = .ok (.laload, 1) := by decide +kernel
theorem d_Mo_sumFields_121 : decode (mB m_Mo_sumFields) 121 = .ok (.ladd, 1) := by decide +kernel
theorem d_Mo_sumFields_122 : decode (mB m_Mo_sumFields) 122 = .ok (.lastore, 1) := by decide +kernel
theorem d_Mo_sumFields_123 : decode (mB m_Mo_sumFields) 123 = .ok (.aload_n 0, 1) := by decide +kernel
theorem d_Mo_sumFields_124 : decode (mB m_Mo_sumFields) 124 = .ok (.getfield 84, 3) := by decide +kernel
theorem d_Mo_sumFields_127 : decode (mB m_Mo_sumFields) 127 = .ok (.iload_n 1, 1) := by decide +kernel
theorem d_Mo_sumFields_128 : decode (mB m_Mo_sumFields) 128 = .ok (.dup2, 1) := by decide +kernel
theorem d_Mo_sumFields_129 : decode (mB m_Mo_sumFields) 129 = .ok (.laload, 1) := by decide +kernel
theorem d_Mo_sumFields_130 : decode (mB m_Mo_sumFields) 130 = .ok (.aload_n 0, 1) := by decide +kernel
theorem d_Mo_sumFields_131 : decode (mB m_Mo_sumFields) 131 = .ok (.getfield 30, 3) := by decide +kernel
theorem d_Mo_sumFields_134 : decode (mB m_Mo_sumFields) 134 = .ok (.iload_n 3, 1) := by decide +kernel
theorem d_Mo_sumFields_135 : decode (mB m_Mo_sumFields) 135 = .ok (.iaload, 1) := by decide +kernel
theorem d_Mo_sumFields_136 : decode (mB m_Mo_sumFields) 136 = .ok (.bipush 112, 2) := by decide +kernel
theorem d_Mo_sumFields_138 : decode (mB m_Mo_sumFields) 138 = .ok (.if_icmp .ne 14, 3) := by decide +kernel
theorem d_Mo_sumFields_141 : decode (mB m_Mo_sumFields) 141 = .ok (.iload_n 2, 1) := by decide +kernel
theorem d_Mo_sumFields_142 : decode (mB m_Mo_sumFields) 142 = .ok (.bipush 7, 2) := by decide +kernel
theorem d_Mo_sumFields_144 : decode (mB m_Mo_sumFields) 144 = .ok (.iadd, 1) := by decide +kernel
theorem d_Mo_sumFields_145 : decode (mB m_Mo_sumFields) 145 = .ok (.bipush 8, 2) := by decide +kernel
theorem d_Mo_sumFields_147 : decode (mB m_Mo_sumFields) 147 = .ok (.idiv, 1) := by decide +kernel
theorem d_Mo_sumFields_148 : decode (mB m_Mo_sumFields) 148 = .ok (.i2l, 1) := by decide +kernel
theorem d_Mo_sumFields_149 : decode (mB m_Mo_sumFields) 149 = .ok (.goto 9, 3) := by decide +kernel
theorem d_Mo_sumFields_152 : decode (mB m_Mo_sumFields) 152 = .ok (.aload_n 0, 1) := by decide +kernel
theorem d_Mo_sumFields_153 : decode (mB m_Mo_sumFields) 153 = .ok (.getfield 84, 3) := by decide +kernel
theorem d_Mo_sumFields_156 : decode (mB m_Mo_sumFields) 156 = .ok (.iload_n 3, 1) := by decide +kernel
theorem d_Mo_sumFields_157 : decode (mB m_Mo_sumFields) 157 = .ok (.laload, 1) := by decide +kernel
theorem d_Mo_sumFields_158 : decode (mB m_Mo_sumFields) 158 = .ok (.ladd, 1) := by decide +kernel
theorem d_Mo_sumFields_159 : decode (mB m_Mo_sumFields) 159 = .ok (.lastore, 1) := by decide +kernel
theorem d_Mo_sumFields_160 : decode (mB m_Mo_sumFields) 160 = .ok (.iconst 0, 1) := by decide +kernel
theorem d_Mo_sumFields_161 : decode (mB m_Mo_sumFields) 161 = .ok (.istore_n 2, 1) := by decide +kernel
theorem d_Mo_sumFields_162 : decode (mB m_Mo_sumFields) 162 = .ok (.aload_n 0, 1) := by decide +kernel
theorem d_Mo_sumFields_163 : decode (mB m_Mo_sumFields) 163 = .ok (.getfield 57, 3) := by decide +kernel
theorem d_Mo_sumFields_166 : decode (mB m_Mo_sumFields) 166 = .ok (.iload_n 3, 1) := by decide +kernel
theorem d_Mo_sumFields_167 : decode (mB m_Mo_sumFields) 167 = .ok (.iaload, 1) := by decide +kernel
theorem d_Mo_sumFields_168 : decode (mB m_Mo_sumFields) 168 = .ok (.istore_n 3, 1) := by decide +kernel
theorem d_Mo_sumFields_169 : decode (mB m_Mo_sumFields) 169 = .ok (.goto (-146), 3) := by decide +kernel
theorem d_Mo_sumFields_172 : decode (mB m_Mo_sumFields) 172 = .ok (.return_, 1) := by decide +kernel
theorem d_Mo_measure_0 : decode (mB m_Mo_measure) 0 = .ok (.aload_n 0, 1) := by decide +kernel
theorem d_Mo_measure_1 : decode (mB m_Mo_measure) 1 = .ok (.getfield 30, 3) := by decide +kernel
theorem d_Mo_measure_4 : decode (mB m_Mo_measure) 4 = .ok (.iload_n 1, 1) := by decide +kernel
theorem d_Mo_measure_5 : decode (mB m_Mo_measure) 5 = .ok (.iaload, 1) := by decide +kernel
theorem d_Mo_measure_6 : decode (mB m_Mo_measure) 6 = .ok (.istore_n 2, 1) := by decide +kernel
theorem d_Mo_measure_7 : decode (mB m_Mo_measure) 7 = .ok (.aload_n 0, 1) := by decide +kernel
theorem d_Mo_measure_8 : decode (mB m_Mo_measure) 8 = .ok (.getfield 54, 3) := by decide +kernel
theorem d_Mo_measure_11 : decode (mB m_Mo_measure) 11 = .ok (.iload_n 1, 1) := by decide +kernel
theorem d_Mo_measure_12 : decode (mB m_Mo_measure) 12 = .ok (.iaload, 1) := by decide +kernel
theorem d_Mo_measure_13 : decode (mB m_Mo_measure) 13 = .ok (.istore_n 3, 1) := by decide +kernel
theorem d_Mo_measure_14 : decode (mB m_Mo_measure) 14 = .ok (.aload_n 0, 1) := by decide +kernel
theorem d_Mo_measure_15 : decode (mB m_Mo_measure) 15 = .ok (.getfield 87, 3) := by decide +kernel
theorem d_Mo_measure_18 : decode (mB m_Mo_measure) 18 = .ok (.iload_n 1, 1) := by decide +kernel
theorem d_Mo_measure_19 : decode (mB m_Mo_measure) 19 = .ok (.iaload, 1) := by decide +kernel
theorem d_Mo_measure_20 : decode (mB m_Mo_measure) 20 = .ok (.istore 4, 2) := by decide +kernel
theorem d_Mo_measure_22 : decode (mB m_Mo_measure) 22 = .ok (.iload 4, 2) := by decide +kernel
theorem d_Mo_measure_24 : decode (mB m_Mo_measure) 24 = .ok (.ifCond .lt 15, 3) := by decide +kernel
theorem d_Mo_measure_27 : decode (mB m_Mo_measure) 27 = .ok (.aload_n 0, 1) := by decide +kernel
theorem d_Mo_measure_28 : decode (mB m_Mo_measure) 28 = .ok (.getfield 75, 3) := by decide +kernel
theorem d_Mo_measure_31 : decode (mB m_Mo_measure) 31 = .ok (.iload 4, 2) := by decide +kernel
theorem d_Mo_measure_33 : decode (mB m_Mo_measure) 33 = .ok (.laload, 1) := by decide +kernel
theorem d_Mo_measure_34 : decode (mB m_Mo_measure) 34 = .ok (.lconst 0, 1) := by decide +kernel
theorem d_Mo_measure_35 : decode (mB m_Mo_measure) 35 = .ok (.lcmp, 1) := by decide +kernel
theorem d_Mo_measure_36 : decode (mB m_Mo_measure) 36 = .ok (.ifCond .ge 7, 3) := by decide +kernel
theorem d_Mo_measure_39 : decode (mB m_Mo_measure) 39 = .ok (.lconst 0, 1) := by decide +kernel
theorem d_Mo_measure_40 : decode (mB m_Mo_measure) 40 = .ok (.goto 10, 3) := by decide +kernel
theorem d_Mo_measure_43 : decode (mB m_Mo_measure) 43 = .ok (.aload_n 0, 1) := by decide +kernel
theorem d_Mo_measure_44 : decode (mB m_Mo_measure) 44 = .ok (.getfield 75, 3) := by decide +kernel
theorem d_Mo_measure_47 : decode (mB m_Mo_measure) 47 = .ok (.iload 4, 2) := by decide +kernel
theorem d_Mo_measure_49 : decode (mB m_Mo_measure) 49 = .ok (.laload, 1) := by decide +kernel
theorem d_Mo_measure_50 : decode (mB m_Mo_measure) 50 = .ok (.lstore 5, 2) := by decide +kernel
theorem d_Mo_measure_52 : decode (mB m_Mo_measure) 52 = .ok (.iload 4, 2) := by decide +kernel
theorem d_Mo_measure_54 : decode (mB m_Mo_measure) 54 = .ok (.ifCond .lt 15, 3) := by decide +kernel
theorem d_Mo_measure_57 : decode (mB m_Mo_measure) 57 = .ok (.aload_n 0, 1) := by decide +kernel
theorem d_Mo_measure_58 : decode (mB m_Mo_measure) 58 = .ok (.getfield 78, 3) := by decide +kernel
theorem d_Mo_measure_61 : decode (mB m_Mo_measure) 61 = .ok (.iload 4, 2) := by decide +kernel
theorem d_Mo_measure_63 : decode (mB m_Mo_measure) 63 = .ok (.laload, 1) := by decide +kernel
theorem d_Mo_measure_64 : decode (mB m_Mo_measure) 64 = .ok (.lconst 0, 1) := by decide +kernel
theorem d_Mo_measure_65 : decode (mB m_Mo_measure) 65 = .ok (.lcmp, 1) := by decide +kernel
theorem d_Mo_measure_66 : decode (mB m_Mo_measure) 66 = .ok (.ifCond .ge 7, 3) := by decide +kernel
theorem d_Mo_measure_69 : decode (mB m_Mo_measure) 69 = .ok (.lconst 0, 1) := by decide +kernel
theorem d_Mo_measure_70 : decode (mB m_Mo_measure) 70 = .ok (.goto 10, 3) := by decide +kernel
theorem d_Mo_measure_73 : decode (mB m_Mo_measure) 73 = .ok (.aload_n 0, 1) := by decide +kernel
theorem d_Mo_measure_74 : decode (mB m_Mo_measure) 74 = .ok (.getfield 78, 3) := by decide +kernel
theorem d_Mo_measure_77 : decode (mB m_Mo_measure) 77 = .ok (.iload 4, 2) := by decide +kernel
theorem d_Mo_measure_79 : decode (mB m_Mo_measure) 79 = .ok (.laload, 1) := by decide +kernel
theorem d_Mo_measure_80 : decode (mB m_Mo_measure) 80 = .ok (.lstore 7, 2) := by decide +kernel
theorem d_Mo_measure_82 : decode (mB m_Mo_measure) 82 = .ok (.aload_n 0, 1) := by decide +kernel
theorem d_Mo_measure_83 : decode (mB m_Mo_measure) 83 = .ok (.getfield 81, 3) := by decide +kernel
theorem d_Mo_measure_86 : decode (mB m_Mo_measure) 86 = .ok (.iload_n 1, 1) := by decide +kernel
theorem d_Mo_measure_87 : decode (mB m_Mo_measure) 87 = .ok (.iload_n 2, 1) := by decide +kernel
theorem d_Mo_measure_88 : decode (mB m_Mo_measure) 88 = .ok (.bipush 122, 2) := by decide +kernel
theorem d_Mo_measure_90 : decode (mB m_Mo_measure) 90 = .ok (.if_icmp .ne 7, 3) := by decide +kernel
theorem d_Mo_measure_93 : decode (mB m_Mo_measure) 93 = .ok (.lconst 1, 1) := by decide +kernel
theorem d_Mo_measure_94 : decode (mB m_Mo_measure) 94 = .ok (.goto 66, 3) := by decide +kernel
theorem d_Mo_measure_97 : decode (mB m_Mo_measure) 97 = .ok (.iload_n 2, 1) := by decide +kernel
theorem d_Mo_measure_98 : decode (mB m_Mo_measure) 98 = .ok (.bipush 102, 2) := by decide +kernel
theorem d_Mo_measure_100 : decode (mB m_Mo_measure) 100 = .ok (.if_icmp .ne 9, 3) := by decide +kernel
theorem d_Mo_measure_103 : decode (mB m_Mo_measure) 103 = .ok (.ldc2_w 177, 3) := by decide +kernel
theorem d_Mo_measure_106 : decode (mB m_Mo_measure) 106 = .ok (.goto 54, 3) := by decide +kernel
theorem d_Mo_measure_109 : decode (mB m_Mo_measure) 109 = .ok (.iload_n 2, 1) := by decide +kernel
theorem d_Mo_measure_110 : decode (mB m_Mo_measure) 110 = .ok (.bipush 100, 2) := by decide +kernel
theorem d_Mo_measure_112 : decode (mB m_Mo_measure) 112 = .ok (.if_icmp .ne 9, 3) := by decide +kernel
theorem d_Mo_measure_115 : decode (mB m_Mo_measure) 115 = .ok (.ldc2_w 179, 3) := by decide +kernel
theorem d_Mo_measure_118 : decode (mB m_Mo_measure) 118 = .ok (.goto 42, 3) := by decide +kernel
theorem d_Mo_measure_121 : decode (mB m_Mo_measure) 121 = .ok (.iload_n 2, 1) := by decide +kernel
theorem d_Mo_measure_122 : decode (mB m_Mo_measure) 122 = .ok (.bipush 114, 2) := by decide +kernel
theorem d_Mo_measure_124 : decode (mB m_Mo_measure) 124 = .ok (.if_icmp .ne 7, 3) := by decide +kernel
theorem d_Mo_measure_127 : decode (mB m_Mo_measure) 127 = .ok (.lconst 0, 1) := by decide +kernel
theorem d_Mo_measure_128 : decode (mB m_Mo_measure) 128 = .ok (.goto 32, 3) := by decide +kernel
theorem d_Mo_measure_131 : decode (mB m_Mo_measure) 131 = .ok (.iload_n 2, 1) := by decide +kernel
theorem d_Mo_measure_132 : decode (mB m_Mo_measure) 132 = .ok (.bipush 112, 2) := by decide +kernel
theorem d_Mo_measure_134 : decode (mB m_Mo_measure) 134 = .ok (.if_icmp .ne 19, 3) := by decide +kernel
theorem d_Mo_measure_137 : decode (mB m_Mo_measure) 137 = .ok (.aload_n 0, 1) := by decide +kernel
theorem d_Mo_measure_138 : decode (mB m_Mo_measure) 138 = .ok (.getfield 33, 3) := by decide +kernel
theorem d_Mo_measure_141 : decode (mB m_Mo_measure) 141 = .ok (.iload_n 1, 1) := by decide +kernel
theorem d_Mo_measure_142 : decode (mB m_Mo_measure) 142 = .ok (.iaload, 1) := by decide +kernel
theorem d_Mo_measure_143 : decode (mB m_Mo_measure) 143 = .ok (.bipush 7, 2) := by decide +kernel
theorem d_Mo_measure_145 : decode (mB m_Mo_measure) 145 = .ok (.iadd, 1) := by decide +kernel
theorem d_Mo_measure_146 : decode (mB m_Mo_measure) 146 = .ok (.bipush 8, 2) := by decide +kernel
theorem d_Mo_measure_148 : decode (mB m_Mo_measure) 148 = .ok (.idiv, 1) := by decide +kernel
theorem d_Mo_measure_149 : decode (mB m_Mo_measure) 149 = .ok (.i2l, 1) := by decide +kernel
theorem d_Mo_measure_150 : decode (mB m_Mo_measure) 150 = .ok (.goto 10, 3) := by decide +kernel
theorem d_Mo_measure_153 : decode (mB m_Mo_measure) 153 = .ok (.aload_n 0, 1) := by decide +kernel
theorem d_Mo_measure_154 : decode (mB m_Mo_measure) 154 = .ok (.getfield 33, 3) := by decide +kernel
theorem d_Mo_measure_157 : decode (mB m_Mo_measure) 157 = .ok (.iload_n 1, 1) := by decide +kernel
theorem d_Mo_measure_158 : decode (mB m_Mo_measure) 158 = .ok (.iaload, 1) := by decide +kernel
theorem d_Mo_measure_159 : decode (mB m_Mo_measure) 159 = .ok (.i2l, 1) := by decide +kernel
theorem d_Mo_measure_160 : decode (mB m_Mo_measure) 160 = .ok (.lastore, 1) := by decide +kernel
theorem d_Mo_measure_161 : decode (mB m_Mo_measure) 161 = .ok (.aload_n 0, 1) := by decide +kernel
theorem d_Mo_measure_162 : decode (mB m_Mo_measure) 162 = .ok (.getfield 84, 3) := by decide +kernel
theorem d_Mo_measure_165 : decode (mB m_Mo_measure) 165 = .ok (.iload_n 1, 1) := by decide +kernel
theorem d_Mo_measure_166 : decode (mB m_Mo_measure) 166 = .ok (.iload_n 2, 1) := by decide +kernel
theorem d_Mo_measure_167 : decode (mB m_Mo_measure) 167 = .ok (.bipush 122, 2) := by decide +kernel
theorem d_Mo_measure_169 : decode (mB m_Mo_measure) 169 = .ok (.if_icmp .ne 9, 3) := by decide +kernel
theorem d_Mo_measure_172 : decode (mB m_Mo_measure) 172 = .ok (.ldc2_w 181, 3) := by decide +kernel
theorem d_Mo_measure_175 : decode (mB m_Mo_measure) 175 = .ok (.goto 21, 3) := by decide +kernel
theorem d_Mo_measure_178 : decode (mB m_Mo_measure) 178 = .ok (.iload_n 2, 1) := by decide +kernel
theorem d_Mo_measure_179 : decode (mB m_Mo_measure) 179 = .ok (.bipush 114, 2) := by decide +kernel
theorem d_Mo_measure_181 : decode (mB m_Mo_measure) 181 = .ok (.if_icmp .ne 9, 3) := by decide +kernel
theorem d_Mo_measure_184 : decode (mB m_Mo_measure) 184 = .ok (.ldc2_w 183, 3) := by decide +kernel
theorem d_Mo_measure_187 : decode (mB m_Mo_measure) 187 = .ok (.goto 9, 3) := by decide +kernel
theorem d_Mo_measure_190 : decode (mB m_Mo_measure) 190 = .ok (.aload_n 0, 1) := by decide +kernel
theorem d_Mo_measure_191 : decode (mB m_Mo_measure) 191 = .ok (.getfield 81, 3) := by decide +kernel
theorem d_Mo_measure_194 : decode (mB m_Mo_measure) 194 = .ok (.iload_n 1, 1) := by decide +kernel
theorem d_Mo_measure_195 : decode (mB m_Mo_measure) 195 = .ok (.laload, 1) := by decide +kernel
theorem d_Mo_measure_196 : decode (mB m_Mo_measure) 196 = .ok (.lastore, 1) := by decide +kernel
theorem d_Mo_measure_197 : decode (mB m_Mo_measure) 197 = .ok (.iload_n 2, 1) := by decide +kernel
theorem d_Mo_measure_198 : decode (mB m_Mo_measure) 198 = .ok (.bipush 123, 2) := by decide +kernel
theorem d_Mo_measure_200 : decode (mB m_Mo_measure) 200 = .ok (.if_icmp .ne 8, 3) := by decide +kernel
theorem d_Mo_measure_203 : decode (mB m_Mo_measure) 203 = .ok (.aload_n 0, 1) := by decide +kernel
theorem d_Mo_measure_204 : decode (mB m_Mo_measure) 204 = .ok (.iload_n 1, 1) := by decide +kernel
theorem d_Mo_measure_205 : decode (mB m_Mo_measure) 205 = .ok (.invokevirtual 185, 3) := by decide +kernel
theorem d_Mo_measure_208 : decode (mB m_Mo_measure) 208 = .ok (.iload_n 2, 1) := by decide +kernel
theorem d_Mo_measure_209 : decode (mB m_Mo_measure) 209 = .ok (.bipush 42, 2) := by decide +kernel
theorem d_Mo_measure_211 : decode (mB m_Mo_measure) 211 = .ok (.if_icmp .ne 33, 3) := by decide +kernel
theorem d_Mo_measure_214 : decode (mB m_Mo_measure) 214 = .ok (.aload_n 0, 1) := by decide +kernel
theorem d_Mo_measure_215 : decode (mB m_Mo_measure) 215 = .ok (.getfield 81, 3) := by decide +kernel
theorem d_Mo_measure_218 : decode (mB m_Mo_measure) 218 = .ok (.iload_n 1, 1) := by decide +kernel
theorem d_Mo_measure_219 : decode (mB m_Mo_measure) 219 = .ok (.lload 5, 2) := by decide +kernel
theorem d_Mo_measure_221 : decode (mB m_Mo_measure) 221 = .ok (.aload_n 0, 1) := by decide +kernel
theorem d_Mo_measure_222 : decode (mB m_Mo_measure) 222 = .ok (.getfield 81, 3) := by decide +kernel
theorem d_Mo_measure_225 : decode (mB m_Mo_measure) 225 = .ok (.iload_n 3, 1) := by decide +kernel
theorem d_Mo_measure_226 : decode (mB m_Mo_measure) 226 = .ok (.laload, 1) := by decide +kernel
theorem d_Mo_measure_227 : decode (mB m_Mo_measure) 227 = .ok (.lmul, 1) := by decide +kernel
theorem d_Mo_measure_228 : decode (mB m_Mo_measure) 228 = .ok (.lastore, 1) := by decide +kernel
theorem d_Mo_measure_229 : decode (mB m_Mo_measure) 229 = .ok (.aload_n 0, 1) := by decide +kernel
theorem d_Mo_measure_230 : decode (mB m_Mo_measure) 230 = .ok (.getfield 84, 3) := by decide +kernel
theorem d_Mo_measure_233 : decode (mB m_Mo_measure) 233 = .ok (.iload_n 1, 1) := by decide +kernel
theorem d_Mo_measure_234 : decode (mB m_Mo_measure) 234 = .ok (.lload 7, 2) := by decide +kernel
theorem d_Mo_measure_236 : decode (mB m_Mo_measure) 236 = .ok (.aload_n 0, 1) := by decide +kernel
theorem d_Mo_measure_237 : decode (mB m_Mo_measure) 237 = .ok (.getfield 84, 3) := by decide +kernel
theorem d_Mo_measure_240 : decode (mB m_Mo_measure) 240 = .ok (.iload_n 3, 1) := by decide +kernel
theorem d_Mo_measure_241 : decode (mB m_Mo_measure) 241 = .ok (.laload, 1) := by decide +kernel
theorem d_Mo_measure_242 : decode (mB m_Mo_measure) 242 = .ok (.lmul, 1) := by decide +kernel
theorem d_Mo_measure_243 : decode (mB m_Mo_measure) 243 = .ok (.lastore, 1) := by decide +kernel
theorem d_Mo_measure_244 : decode (mB m_Mo_measure) 244 = .ok (.iload_n 2, 1) := by decide +kernel
theorem d_Mo_measure_245 : decode (mB m_Mo_measure) 245 = .ok (.bipush 47, 2) := by decide +kernel
theorem d_Mo_measure_247 : decode (mB m_Mo_measure) 247 = .ok (.if_icmp .ne 19, 3) := by decide +kernel
theorem d_Mo_measure_250 : decode (mB m_Mo_measure) 250 = .ok (.aload_n 0, 1) := by decide +kernel
theorem d_Mo_measure_251 : decode (mB m_Mo_measure) 251 = .ok (.getfield 81, 3) := by decide +kernel
theorem d_Mo_measure_254 : decode (mB m_Mo_measure) 254 = .ok (.iload_n 1, 1) := by decide +kernel
theorem d_Mo_measure_255 : decode (mB m_Mo_measure) 255 = .ok (.lload 5, 2) := by decide +kernel
theorem d_Mo_measure_257 : decode (mB m_Mo_measure) 257 = .ok (.lastore, 1) := by decide +kernel
theorem d_Mo_measure_258 : decode (mB m_Mo_measure) 258 = .ok (.aload_n 0, 1) := by decide +kernel
theorem d_Mo_measure_259 : decode (mB m_Mo_measure) 259 = .ok (.getfield 84, 3) := by decide +kernel
theorem d_Mo_measure_262 : decode (mB m_Mo_measure) 262 = .ok (.iload_n 1, 1) := by decide +kernel
theorem d_Mo_measure_263 : decode (mB m_Mo_measure) 263 = .ok (.lload 7, 2) := by decide +kernel
theorem d_Mo_measure_265 : decode (mB m_Mo_measure) 265 = .ok (.lastore, 1) := by decide +kernel
theorem d_Mo_measure_266 : decode (mB m_Mo_measure) 266 = .ok (.iload_n 2, 1) := by decide +kernel
theorem d_Mo_measure_267 : decode (mB m_Mo_measure) 267 = .ok (.bipush 63, 2) := by decide +kernel
theorem d_Mo_measure_269 : decode (mB m_Mo_measure) 269 = .ok (.if_icmp .ne 130, 3) := by decide +kernel
theorem d_Mo_measure_272 : decode (mB m_Mo_measure) 272 = .ok (.aload_n 0, 1) := by decide +kernel
theorem d_Mo_measure_273 : decode (mB m_Mo_measure) 273 = .ok (.getfield 81, 3) := by decide +kernel
theorem d_Mo_measure_276 : decode (mB m_Mo_measure) 276 = .ok (.iload_n 1, 1) := by decide +kernel
theorem d_Mo_measure_277 : decode (mB m_Mo_measure) 277 = .ok (.aload_n 0, 1) := by decide +kernel
theorem d_Mo_measure_278 : decode (mB m_Mo_measure) 278 = .ok (.getfield 81, 3) := by decide +kernel
theorem d_Mo_measure_281 : decode (mB m_Mo_measure) 281 = .ok (.iload_n 3, 1) := by decide +kernel
theorem d_Mo_measure_282 : decode (mB m_Mo_measure) 282 = .ok (.laload, 1) := by decide +kernel
theorem d_Mo_measure_283 : decode (mB m_Mo_measure) 283 = .ok (.lastore, 1) := by decide +kernel
theorem d_Mo_measure_284 : decode (mB m_Mo_measure) 284 = .ok (.aload_n 0, 1) := by decide +kernel
theorem d_Mo_measure_285 : decode (mB m_Mo_measure) 285 = .ok (.getfield 84, 3) := by decide +kernel
theorem d_Mo_measure_288 : decode (mB m_Mo_measure) 288 = .ok (.iload_n 1, 1) := by decide +kernel
theorem d_Mo_measure_289 : decode (mB m_Mo_measure) 289 = .ok (.aload_n 0, 1) := by decide +kernel
theorem d_Mo_measure_290 : decode (mB m_Mo_measure) 290 = .ok (.getfield 84, 3) := by decide +kernel
theorem d_Mo_measure_293 : decode (mB m_Mo_measure) 293 = .ok (.iload_n 3, 1) := by decide +kernel
theorem d_Mo_measure_294 : decode (mB m_Mo_measure) 294 = .ok (.laload, 1) := by decide +kernel
theorem d_Mo_measure_295 : decode (mB m_Mo_measure) 295 = .ok (.lastore, 1) := by decide +kernel
theorem d_Mo_measure_296 : decode (mB m_Mo_measure) 296 = .ok (.aload_n 0, 1) := by decide +kernel
theorem d_Mo_measure_297 : decode (mB m_Mo_measure) 297 = .ok (.getfield 57, 3) := by decide +kernel
theorem d_Mo_measure_300 : decode (mB m_Mo_measure) 300 = .ok (.iload_n 3, 1) := by decide +kernel
theorem d_Mo_measure_301 : decode (mB m_Mo_measure) 301 = .ok (.iaload, 1) := by decide +kernel
theorem d_Mo_measure_302 : decode (mB m_Mo_measure) 302 = .ok (.istore 9, 2) := by decide +kernel
theorem d_Mo_measure_304 : decode (mB m_Mo_measure) 304 = .ok (.iload 9, 2) := by decide +kernel
theorem d_Mo_measure_306 : decode (mB m_Mo_measure) 306 = .ok (.ifCond .lt 93, 3) := by decide +kernel
theorem d_Mo_measure_309 : decode (mB m_Mo_measure) 309 = .ok (.aload_n 0, 1) := by decide +kernel
theorem d_Mo_measure_310 : decode (mB m_Mo_measure) 310 = .ok (.getfield 81, 3) := by decide +kernel
theorem d_Mo_measure_313 : decode (mB m_Mo_measure) 313 = .ok (.iload_n 1, 1) := by decide +kernel
theorem d_Mo_measure_314 : decode (mB m_Mo_measure) 314 = .ok (.aload_n 0, 1) := by decide +kernel
theorem d_Mo_measure_315 : decode (mB m_Mo_measure) 315 = .ok (.getfield 81, 3) := by decide +kernel
theorem d_Mo_measure_318 : decode (mB m_Mo_measure) 318 = .ok (.iload 9, 2) := by decide +kernel
theorem d_Mo_measure_320 : decode (mB m_Mo_measure) 320 = .ok (.laload, 1) := by decide +kernel
theorem d_Mo_measure_321 : decode (mB m_Mo_measure) 321 = .ok (.aload_n 0, 1) := by decide +kernel
theorem d_Mo_measure_322 : decode (mB m_Mo_measure) 322 = .ok (.getfield 81, 3) := by decide +kernel
theorem d_Mo_measure_325 : decode (mB m_Mo_measure) 325 = .ok (.iload_n 1, 1) := by decide +kernel
theorem d_Mo_measure_326 : decode (mB m_Mo_measure) 326 = .ok (.laload, 1) := by decide +kernel
theorem d_Mo_measure_327 : decode (mB m_Mo_measure) 327 = .ok (.lcmp, 1) := by decide +kernel
theorem d_Mo_measure_328 : decode (mB m_Mo_measure) 328 = .ok (.ifCond .ge 13, 3) := by decide +kernel
theorem d_Mo_measure_331 : decode (mB m_Mo_measure) 331 = .ok (.aload_n 0, 1) := by decide +kernel
theorem d_Mo_measure_332 : decode (mB m_Mo_measure) 332 = .ok (.getfield 81, 3) := by decide +kernel
theorem d_Mo_measure_335 : decode (mB m_Mo_measure) 335 = .ok (.iload 9, 2) := by decide +kernel
theorem d_Mo_measure_337 : decode (mB m_Mo_measure) 337 = .ok (.laload, 1) := by decide +kernel
theorem d_Mo_measure_338 : decode (mB m_Mo_measure) 338 = .ok (.goto 9, 3) := by decide +kernel
theorem d_Mo_measure_341 : decode (mB m_Mo_measure) 341 = .ok (.aload_n 0, 1) := by decide +kernel
theorem d_Mo_measure_342 : decode (mB m_Mo_measure) 342 = .ok (.getfield 81, 3) := by decide +kernel
theorem d_Mo_measure_345 : decode (mB m_Mo_measure) 345 = .ok (.iload_n 1, 1) := by decide +kernel
theorem d_Mo_measure_346 : decode (mB m_Mo_measure) 346 = .ok (.laload, 1) := by decide +kernel
theorem d_Mo_measure_347 : decode (mB m_Mo_measure) 347 = .ok (.lastore, 1) := by decide +kernel
theorem d_Mo_measure_348 : decode (mB m_Mo_measure) 348 = .ok (.aload_n 0, 1) := by decide +kernel
theorem d_Mo_measure_349 : decode (mB m_Mo_measure) 349 = .ok (.getfield 84, 3) := by decide +kernel
theorem d_Mo_measure_352 : decode (mB m_Mo_measure) 352 = .ok (.iload_n 1, 1) := by decide +kernel
theorem d_Mo_measure_353 : decode (mB m_Mo_measure) 353 = .ok (.aload_n 0, 1) := by decide +kernel
theorem d_Mo_measure_354 : decode (mB m_Mo_measure) 354 = .ok (.getfield 84, 3) := by decide +kernel
theorem d_Mo_measure_357 : decode (mB m_Mo_measure) 357 = .ok (.iload 9, 2) := by decide +kernel
theorem d_Mo_measure_359 : decode (mB m_Mo_measure) 359 = .ok (.laload, 1) := by decide +kernel
theorem d_Mo_measure_360 : decode (mB m_Mo_measure) 360 = .ok (.aload_n 0, 1) := by decide +kernel
theorem d_Mo_measure_361 : decode (mB m_Mo_measure) 361 = .ok (.getfield 84, 3) := by decide +kernel
theorem d_Mo_measure_364 : decode (mB m_Mo_measure) 364 = .ok (.iload_n 1, 1) := by decide +kernel
theorem d_Mo_measure_365 : decode (mB m_Mo_measure) 365 = .ok (.laload, 1) := by decide +kernel
theorem d_Mo_measure_366 : decode (mB m_Mo_measure) 366 = .ok (.lcmp, 1) := by decide +kernel
theorem d_Mo_measure_367 : decode (mB m_Mo_measure) 367 = .ok (.ifCond .le 13, 3) := by decide +kernel
theorem d_Mo_measure_370 : decode (mB m_Mo_measure) 370 = .ok (.aload_n 0, 1) := by decide +kernel
theorem d_Mo_measure_371 : decode (mB m_Mo_measure) 371 = .ok (.getfield 84, 3) := by decide +kernel
theorem d_Mo_measure_374 : decode (mB m_Mo_measure) 374 = .ok (.iload 9, 2) := by decide +kernel
theorem d_Mo_measure_376 : decode (mB m_Mo_measure) 376 = .ok (.laload, 1) := by decide +kernel
theorem d_Mo_measure_377 : decode (mB m_Mo_measure) 377 = .ok (.goto 9, 3) := by decide +kernel
theorem d_Mo_measure_380 : decode (mB m_Mo_measure) 380 = .ok (.aload_n 0, 1) := by decide +kernel
theorem d_Mo_measure_381 : decode (mB m_Mo_measure) 381 = .ok (.getfield 84, 3) := by decide +kernel
theorem d_Mo_measure_384 : decode (mB m_Mo_measure) 384 = .ok (.iload_n 1, 1) := by decide +kernel
theorem d_Mo_measure_385 : decode (mB m_Mo_measure) 385 = .ok (.laload, 1) := by decide +kernel
theorem d_Mo_measure_386 : decode (mB m_Mo_measure) 386 = .ok (.lastore, 1) := by decide +kernel
theorem d_Mo_measure_387 : decode (mB m_Mo_measure) 387 = .ok (.aload_n 0, 1) := by decide +kernel
theorem d_Mo_measure_388 : decode (mB m_Mo_measure) 388 = .ok (.getfield 57, 3) := by decide +kernel
theorem d_Mo_measure_391 : decode (mB m_Mo_measure) 391 = .ok (.iload 9, 2) := by decide +kernel
theorem d_Mo_measure_393 : decode (mB m_Mo_measure) 393 = .ok (.iaload, 1) := by decide +kernel
theorem d_Mo_measure_394 : decode (mB m_Mo_measure) 394 = .ok (.istore 9, 2) := by decide +kernel
theorem d_Mo_measure_396 : decode (mB m_Mo_measure) 396 = .ok (.goto (-92), 3) := by decide +kernel
theorem d_Mo_measure_399 : decode (mB m_Mo_measure) 399 = .ok (.aload_n 0, 1) := by decide +kernel
theorem d_Mo_measure_400 : decode (mB m_Mo_measure) 400 = .ok (.getfield 81, 3) := by decide +kernel
theorem d_Mo_measure_403 : decode (mB m_Mo_measure) 403 = .ok (.iload_n 1, 1) := by decide +kernel
theorem d_Mo_measure_404 : decode (mB m_Mo_measure) 404 = .ok (.aload_n 0, 1) := by decide +kernel
theorem d_Mo_measure_405 : decode (mB m_Mo_measure) 405 = .ok (.aload_n 0, 1) := by decide +kernel
theorem d_Mo_measure_406 : decode (mB m_Mo_measure) 406 = .ok (.getfield 81, 3) := by decide +kernel
theorem d_Mo_measure_409 : decode (mB m_Mo_measure) 409 = .ok (.iload_n 1, 1) := by decide +kernel
theorem d_Mo_measure_410 : decode (mB m_Mo_measure) 410 = .ok (.laload, 1) := by decide +kernel
theorem d_Mo_measure_411 : decode (mB m_Mo_measure) 411 = .ok (.invokevirtual 189, 3) := by decide +kernel
theorem d_Mo_measure_414 : decode (mB m_Mo_measure) 414 = .ok (.lastore, 1) := by decide +kernel
theorem d_Mo_measure_415 : decode (mB m_Mo_measure) 415 = .ok (.aload_n 0, 1) := by decide +kernel
theorem d_Mo_measure_416 : decode (mB m_Mo_measure) 416 = .ok (.getfield 84, 3) := by decide +kernel
theorem d_Mo_measure_419 : decode (mB m_Mo_measure) 419 = .ok (.iload_n 1, 1) := by decide +kernel
theorem d_Mo_measure_420 : decode (mB m_Mo_measure) 420 = .ok (.aload_n 0, 1) := by decide +kernel
theorem d_Mo_measure_421 : decode (mB m_Mo_measure) 421 = .ok (.aload_n 0, 1) := by decide +kernel
theorem d_Mo_measure_422 : decode (mB m_Mo_measure) 422 = .ok (.getfield 84, 3) := by decide +kernel
theorem d_Mo_measure_425 : decode (mB m_Mo_measure) 425 = .ok (.iload_n 1, 1) := by decide +kernel
theorem d_Mo_measure_426 : decode (mB m_Mo_measure) 426 = .ok (.laload, 1) := by decide +kernel
theorem d_Mo_measure_427 : decode (mB m_Mo_measure) 427 = .ok (.invokevirtual 189, 3) := by decide +kernel
theorem d_Mo_measure_430 : decode (mB m_Mo_measure) 430 = .ok (.lastore, 1) := by decide +kernel
theorem d_Mo_measure_431 : decode (mB m_Mo_measure) 431 = .ok (.return_, 1) := by decide +kernel
theorem d_Mo_goodCases_0 : decode (mB m_Mo_goodCases) 0 = .ok (.aload_n 0, 1) := by decide +kernel
theorem d_Mo_goodCases_1 : decode (mB m_Mo_goodCases) 1 = .ok (.getfield 87, 3) := by decide +kernel
theorem d_Mo_goodCases_4 : decode (mB m_Mo_goodCases) 4 = .ok (.iload_n 1, 1) := by decide +kernel
theorem d_Mo_goodCases_5 : decode (mB m_Mo_goodCases) 5 = .ok (.iaload, 1) := by decide +kernel
theorem d_Mo_goodCases_6 : decode (mB m_Mo_goodCases) 6 = .ok (.istore_n 2, 1) := by decide +kernel
theorem d_Mo_goodCases_7 : decode (mB m_Mo_goodCases) 7 = .ok (.aload_n 0, 1) := by decide +kernel
theorem d_Mo_goodCases_8 : decode (mB m_Mo_goodCases) 8 = .ok (.getfield 54, 3) := by decide +kernel
theorem d_Mo_goodCases_11 : decode (mB m_Mo_goodCases) 11 = .ok (.iload_n 1, 1) := by decide +kernel
theorem d_Mo_goodCases_12 : decode (mB m_Mo_goodCases) 12 = .ok (.iaload, 1) := by decide +kernel
theorem d_Mo_goodCases_13 : decode (mB m_Mo_goodCases) 13 = .ok (.istore_n 3, 1) := by decide +kernel
theorem d_Mo_goodCases_14 : decode (mB m_Mo_goodCases) 14 = .ok (.iload_n 3, 1) := by decide +kernel
theorem d_Mo_goodCases_15 : decode (mB m_Mo_goodCases) 15 = .ok (.ifCond .lt 92, 3) := by decide +kernel
theorem d_Mo_goodCases_18 : decode (mB m_Mo_goodCases) 18 = .ok (.aload_n 0, 1) := by decide +kernel
theorem d_Mo_goodCases_19 : decode (mB m_Mo_goodCases) 19 = .ok (.getfield 48, 3) := by decide +kernel
theorem d_Mo_goodCases_22 : decode (mB m_Mo_goodCases) 22 = .ok (.iload_n 3, 1) := by decide +kernel
theorem d_Mo_goodCases_23 : decode (mB m_Mo_goodCases) 23 = .ok (.iaload, 1) := by decide +kernel
theorem d_Mo_goodCases_24 : decode (mB m_Mo_goodCases) 24 = .ok (.i2l, 1) := by decide +kernel
theorem d_Mo_goodCases_25 : decode (mB m_Mo_goodCases) 25 = .ok (.aload_n 0, 1) := by decide +kernel
theorem d_Mo_goodCases_26 : decode (mB m_Mo_goodCases) 26 = .ok (.getfield 75, 3) := by decide +kernel
theorem d_Mo_goodCases_29 : decode (mB m_Mo_goodCases) 29 = .ok (.iload_n 2, 1) := by decide +kernel
theorem d_Mo_goodCases_30 : decode (mB m_Mo_goodCases) 30 = .ok (.laload, 1) := by decide +kernel
theorem d_Mo_goodCases_31 : decode (mB m_Mo_goodCases) 31 = .ok (.lcmp, 1) := by decide +kernel
theorem d_Mo_goodCases_32 : decode (mB m_Mo_goodCases) 32 = .ok (.ifCond .lt 20, 3) := by decide +kernel
theorem d_Mo_goodCases_35 : decode (mB m_Mo_goodCases) 35 = .ok (.aload_n 0, 1) := by decide +kernel
theorem d_Mo_goodCases_36 : decode (mB m_Mo_goodCases) 36 = .ok (.getfield 48, 3) := by decide +kernel
theorem d_Mo_goodCases_39 : decode (mB m_Mo_goodCases) 39 = .ok (.iload_n 3, 1) := by decide +kernel
theorem d_Mo_goodCases_40 : decode (mB m_Mo_goodCases) 40 = .ok (.iaload, 1) := by decide +kernel
theorem d_Mo_goodCases_41 : decode (mB m_Mo_goodCases) 41 = .ok (.i2l, 1) := by decide +kernel
theorem d_Mo_goodCases_42 : decode (mB m_Mo_goodCases) 42 = .ok (.aload_n 0, 1) := by decide +kernel
theorem d_Mo_goodCases_43 : decode (mB m_Mo_goodCases) 43 = .ok (.getfield 78, 3) := by decide +kernel
theorem d_Mo_goodCases_46 : decode (mB m_Mo_goodCases) 46 = .ok (.iload_n 2, 1) := by decide +kernel
theorem d_Mo_goodCases_47 : decode (mB m_Mo_goodCases) 47 = .ok (.laload, 1) := by decide +kernel
theorem d_Mo_goodCases_48 : decode (mB m_Mo_goodCases) 48 = .ok (.lcmp, 1) := by decide +kernel
theorem d_Mo_goodCases_49 : decode (mB m_Mo_goodCases) 49 = .ok (.ifCond .le 5, 3) := by decide +kernel
theorem d_Mo_goodCases_52 : decode (mB m_Mo_goodCases) 52 = .ok (.iconst 0, 1) := by decide +kernel
theorem d_Mo_goodCases_53 : decode (mB m_Mo_goodCases) 53 = .ok (.ireturn, 1) := by decide +kernel
theorem d_Mo_goodCases_54 : decode (mB m_Mo_goodCases) 54 = .ok (.aload_n 0, 1) := by decide +kernel
theorem d_Mo_goodCases_55 : decode (mB m_Mo_goodCases) 55 = .ok (.getfield 57, 3) := by decide +kernel
theorem d_Mo_goodCases_58 : decode (mB m_Mo_goodCases) 58 = .ok (.iload_n 3, 1) := by decide +kernel
theorem d_Mo_goodCases_59 : decode (mB m_Mo_goodCases) 59 = .ok (.iaload, 1) := by decide +kernel
theorem d_Mo_goodCases_60 : decode (mB m_Mo_goodCases) 60 = .ok (.istore 4, 2) := by decide +kernel
theorem d_Mo_goodCases_62 : decode (mB m_Mo_goodCases) 62 = .ok (.iload 4, 2) := by decide +kernel
theorem d_Mo_goodCases_64 : decode (mB m_Mo_goodCases) 64 = .ok (.ifCond .lt 33, 3) := by decide +kernel
theorem d_Mo_goodCases_67 : decode (mB m_Mo_goodCases) 67 = .ok (.aload_n 0, 1) := by decide +kernel
theorem d_Mo_goodCases_68 : decode (mB m_Mo_goodCases) 68 = .ok (.getfield 48, 3) := by decide +kernel
theorem d_Mo_goodCases_71 : decode (mB m_Mo_goodCases) 71 = .ok (.iload_n 3, 1) := by decide +kernel
theorem d_Mo_goodCases_72 : decode (mB m_Mo_goodCases) 72 = .ok (.iaload, 1) := by decide +kernel
theorem d_Mo_goodCases_73 : decode (mB m_Mo_goodCases) 73 = .ok (.aload_n 0, 1) := by decide +kernel
theorem d_Mo_goodCases_74 : decode (mB m_Mo_goodCases) 74 = .ok (.getfield 48, 3) := by decide +kernel
theorem d_Mo_goodCases_77 : decode (mB m_Mo_goodCases) 77 = .ok (.iload 4, 2) := by decide +kernel
theorem d_Mo_goodCases_79 : decode (mB m_Mo_goodCases) 79 = .ok (.iaload, 1) := by decide +kernel
theorem d_Mo_goodCases_80 : decode (mB m_Mo_goodCases) 80 = .ok (.if_icmp .ne 5, 3) := by decide +kernel
theorem d_Mo_goodCases_83 : decode (mB m_Mo_goodCases) 83 = .ok (.iconst 0, 1) := by decide +kernel
theorem d_Mo_goodCases_84 : decode (mB m_Mo_goodCases) 84 = .ok (.ireturn, 1) := by decide +kernel
theorem d_Mo_goodCases_85 : decode (mB m_Mo_goodCases) 85 = .ok (.aload_n 0, 1) := by decide +kernel
theorem d_Mo_goodCases_86 : decode (mB m_Mo_goodCases) 86 = .ok (.getfield 57, 3) := by decide +kernel
theorem d_Mo_goodCases_89 : decode (mB m_Mo_goodCases) 89 = .ok (.iload 4, 2) := by decide +kernel
theorem d_Mo_goodCases_91 : decode (mB m_Mo_goodCases) 91 = .ok (.iaload, 1) := by decide +kernel
theorem d_Mo_goodCases_92 : decode (mB m_Mo_goodCases) 92 = .ok (.istore 4, 2) := by decide +kernel
theorem d_Mo_goodCases_94 : decode (mB m_Mo_goodCases) 94 = .ok (.goto (-32), 3) := by decide +kernel
theorem d_Mo_goodCases_97 : decode (mB m_Mo_goodCases) 97 = .ok (.aload_n 0, 1) := by decide +kernel
theorem d_Mo_goodCases_98 : decode (mB m_Mo_goodCases) 98 = .ok (.getfield 57, 3) := by decide +kernel
theorem d_Mo_goodCases_101 : decode (mB m_Mo_goodCases) 101 = .ok (.iload_n 3, 1) := by decide +kernel
theorem d_Mo_goodCases_102 : decode (mB m_Mo_goodCases) 102 = .ok (.iaload, 1) := by decide +kernel
theorem d_Mo_goodCases_103 : decode (mB m_Mo_goodCases) 103 = .ok (.istore_n 3, 1) := by decide +kernel
theorem d_Mo_goodCases_104 : decode (mB m_Mo_goodCases) 104 = .ok (.goto (-90), 3) := by decide +kernel
theorem d_Mo_goodCases_107 : decode (mB m_Mo_goodCases) 107 = .ok (.iconst 1, 1) := by decide +kernel
theorem d_Mo_goodCases_108 : decode (mB m_Mo_goodCases) 108 = .ok (.ireturn, 1) := by decide +kernel
theorem d_Mo_soundNode_0 : decode (mB m_Mo_soundNode) 0 = .ok (.aload_n 0, 1) := by decide +kernel
theorem d_Mo_soundNode_1 : decode (mB m_Mo_soundNode) 1 = .ok (.getfield 30, 3) := by decide +kernel
theorem d_Mo_soundNode_4 : decode (mB m_Mo_soundNode) 4 = .ok (.iload_n 1, 1) := by decide +kernel
theorem d_Mo_soundNode_5 : decode (mB m_Mo_soundNode) 5 = .ok (.iaload, 1) := by decide +kernel
theorem d_Mo_soundNode_6 : decode (mB m_Mo_soundNode) 6 = .ok (.istore_n 2, 1) := by decide +kernel
theorem d_Mo_soundNode_7 : decode (mB m_Mo_soundNode) 7 = .ok (.aload_n 0, 1) := by decide +kernel
theorem d_Mo_soundNode_8 : decode (mB m_Mo_soundNode) 8 = .ok (.getfield 51, 3) := by decide +kernel
theorem d_Mo_soundNode_11 : decode (mB m_Mo_soundNode) 11 = .ok (.iload_n 1, 1) := by decide +kernel
theorem d_Mo_soundNode_12 : decode (mB m_Mo_soundNode) 12 = .ok (.iaload, 1) := by decide +kernel
theorem d_Mo_soundNode_13 : decode (mB m_Mo_soundNode) 13 = .ok (.istore_n 3, 1) := by decide +kernel
theorem d_Mo_soundNode_14 : decode (mB m_Mo_soundNode) 14 = .ok (.aload_n 0, 1) := by decide +kernel
theorem d_Mo_soundNode_15 : decode (mB m_Mo_soundNode) 15 = .ok (.getfield 84, 3) := by decide +kernel
theorem d_Mo_soundNode_18 : decode (mB m_Mo_soundNode) 18 = .ok (.iload_n 1, 1) := by decide +kernel
theorem d_Mo_soundNode_19 : decode (mB m_Mo_soundNode) 19 = .ok (.laload, 1) := by decide +kernel
theorem d_Mo_soundNode_20 : decode (mB m_Mo_soundNode) 20 = .ok (.ldc2_w 193, 3) := by decide +kernel
theorem d_Mo_soundNode_23 : decode (mB m_Mo_soundNode) 23 = .ok (.lcmp, 1) := by decide +kernel
theorem d_Mo_soundNode_24 : decode (mB m_Mo_soundNode) 24 = .ok (.ifCond .le 5, 3) := by decide +kernel
theorem d_Mo_soundNode_27 : decode (mB m_Mo_soundNode) 27 = .ok (.iconst 0, 1) := by decide +kernel
theorem d_Mo_soundNode_28 : decode (mB m_Mo_soundNode) 28 = .ok (.ireturn, 1) := by decide +kernel
theorem d_Mo_soundNode_29 : decode (mB m_Mo_soundNode) 29 = .ok (.iload_n 2, 1) := by decide +kernel
theorem d_Mo_soundNode_30 : decode (mB m_Mo_soundNode) 30 = .ok (.bipush 112, 2) := by decide +kernel
theorem d_Mo_soundNode_32 : decode (mB m_Mo_soundNode) 32 = .ok (.if_icmp .ne 20, 3) := by decide +kernel
theorem d_Mo_soundNode_35 : decode (mB m_Mo_soundNode) 35 = .ok (.iload_n 3, 1) := by decide +kernel
theorem d_Mo_soundNode_36 : decode (mB m_Mo_soundNode) 36 = .ok (.ifCond .lt 14, 3) := by decide +kernel
theorem d_Mo_soundNode_39 : decode (mB m_Mo_soundNode) 39 = .ok (.aload_n 0, 1) := by decide +kernel
theorem d_Mo_soundNode_40 : decode (mB m_Mo_soundNode) 40 = .ok (.getfield 30, 3) := by decide +kernel
theorem d_Mo_soundNode_43 : decode (mB m_Mo_soundNode) 43 = .ok (.iload_n 3, 1) := by decide +kernel
theorem d_Mo_soundNode_44 : decode (mB m_Mo_soundNode) 44 = .ok (.iaload, 1) := by decide +kernel
theorem d_Mo_soundNode_45 : decode (mB m_Mo_soundNode) 45 = .ok (.bipush 123, 2) := by decide +kernel
theorem d_Mo_soundNode_47 : decode (mB m_Mo_soundNode) 47 = .ok (.if_icmp .eq 5, 3) := by decide +kernel
theorem d_Mo_soundNode_50 : decode (mB m_Mo_soundNode) 50 = .ok (.iconst 0, 1) := by decide +kernel
theorem d_Mo_soundNode_51 : decode (mB m_Mo_soundNode) 51 = .ok (.ireturn, 1) := by decide +kernel
theorem d_Mo_soundNode_52 : decode (mB m_Mo_soundNode) 52 = .ok (.iload_n 2, 1) := by decide +kernel
theorem d_Mo_soundNode_53 : decode (mB m_Mo_soundNode) 53 = .ok (.bipush 114, 2) := by decide +kernel
theorem d_Mo_soundNode_55 : decode (mB m_Mo_soundNode) 55 = .ok (.if_icmp .ne 33, 3) := by decide +kernel
theorem d_Mo_soundNode_58 : decode (mB m_Mo_soundNode) 58 = .ok (.iload_n 3, 1) := by decide +kernel
theorem d_Mo_soundNode_59 : decode (mB m_Mo_soundNode) 59 = .ok (.ifCond .lt 29, 3) := by decide +kernel
theorem d_Mo_soundNode_62 : decode (mB m_Mo_soundNode) 62 = .ok (.iload_n 3, 1) := by decide +kernel
theorem d_Mo_soundNode_63 : decode (mB m_Mo_soundNode) 63 = .ok (.ifCond .gt 23, 3) := by decide +kernel
theorem d_Mo_soundNode_66 : decode (mB m_Mo_soundNode) 66 = .ok (.aload_n 0, 1) := by decide +kernel
theorem d_Mo_soundNode_67 : decode (mB m_Mo_soundNode) 67 = .ok (.getfield 30, 3) := by decide +kernel
theorem d_Mo_soundNode_70 : decode (mB m_Mo_soundNode) 70 = .ok (.iconst 0, 1) := by decide +kernel
theorem d_Mo_soundNode_71 : decode (mB m_Mo_soundNode) 71 = .ok (.iaload, 1) := by decide +kernel
theorem d_Mo_soundNode_72 : decode (mB m_Mo_soundNode) 72 = .ok (.bipush 123, 2) := by decide +kernel
theorem d_Mo_soundNode_74 : decode (mB m_Mo_soundNode) 74 = .ok (.if_icmp .ne 12, 3) := by decide +kernel
theorem d_Mo_soundNode_77 : decode (mB m_Mo_soundNode) 77 = .ok (.aload_n 0, 1) := by decide +kernel
theorem d_Mo_soundNode_78 : decode (mB m_Mo_soundNode) 78 = .ok (.getfield 57, 3) := by decide +kernel
theorem d_Mo_soundNode_81 : decode (mB m_Mo_soundNode) 81 = .ok (.iload_n 1, 1) := by decide +kernel
theorem d_Mo_soundNode_82 : decode (mB m_Mo_soundNode) 82 = .ok (.iaload, 1) := by decide +kernel
theorem d_Mo_soundNode_83 : decode (mB m_Mo_soundNode) 83 = .ok (.ifCond .lt 5, 3) := by decide +kernel
theorem d_Mo_soundNode_86 : decode (mB m_Mo_soundNode) 86 = .ok (.iconst 0, 1) := by decide +kernel
theorem d_Mo_soundNode_87 : decode (mB m_Mo_soundNode) 87 = .ok (.ireturn, 1) := by decide +kernel
theorem d_Mo_soundNode_88 : decode (mB m_Mo_soundNode) 88 = .ok (.aload_n 0, 1) := by decide +kernel
theorem d_Mo_soundNode_89 : decode (mB m_Mo_soundNode) 89 = .ok (.iload_n 2, 1) := by decide +kernel
theorem d_Mo_soundNode_90 : decode (mB m_Mo_soundNode) 90 = .ok (.invokevirtual 124, 3) := by decide +kernel
theorem d_Mo_soundNode_93 : decode (mB m_Mo_soundNode) 93 = .ok (.ifCond .eq 25, 3) := by decide +kernel
theorem d_Mo_soundNode_96 : decode (mB m_Mo_soundNode) 96 = .ok (.aload_n 0, 1) := by decide +kernel
theorem d_Mo_soundNode_97 : decode (mB m_Mo_soundNode) 97 = .ok (.getfield 75, 3) := by decide +kernel
theorem d_Mo_soundNode_100 : decode (mB m_Mo_soundNode) 100 = .ok (.iload_n 1, 1) := by decide +kernel
theorem d_Mo_soundNode_101 : decode (mB m_Mo_soundNode) 101 = .ok (.laload, 1) := by decide +kernel
theorem d_Mo_soundNode_102 : decode (mB m_Mo_soundNode) 102 = .ok (.aload_n 0, 1) := by decide +kernel
theorem d_Mo_soundNode_103 : decode (mB m_Mo_soundNode) 103 = .ok (.getfield 78, 3) := by decide +kernel
theorem d_Mo_soundNode_106 : decode (mB m_Mo_soundNode) 106 = .ok (.iload_n 1, 1) := by decide +kernel
theorem d_Mo_soundNode_107 : decode (mB m_Mo_soundNode) 107 = .ok (.laload, 1) := by decide +kernel
theorem d_Mo_soundNode_108 : decode (mB m_Mo_soundNode) 108 = .ok (.lcmp, 1) := by decide +kernel
theorem d_Mo_soundNode_109 : decode (mB m_Mo_soundNode) 109 = .ok (.ifCond .gt 7, 3) := by decide +kernel
theorem d_Mo_soundNode_112 : decode (mB m_Mo_soundNode) 112 = .ok (.iconst 1, 1) := by decide +kernel
theorem d_Mo_soundNode_113 : decode (mB m_Mo_soundNode) 113 = .ok (.goto 4, 3) := by decide +kernel
theorem d_Mo_soundNode_116 : decode (mB m_Mo_soundNode) 116 = .ok (.iconst 0, 1) := by decide +kernel
theorem d_Mo_soundNode_117 : decode (mB m_Mo_soundNode) 117 = .ok (.ireturn, 1) := by decide +kernel
theorem d_Mo_soundNode_118 : decode (mB m_Mo_soundNode) 118 = .ok (.iload_n 2, 1) := by decide +kernel
theorem d_Mo_soundNode_119 : decode (mB m_Mo_soundNode) 119 = .ok (.bipush 42, 2) := by decide +kernel
theorem d_Mo_soundNode_121 : decode (mB m_Mo_soundNode) 121 = .ok (.if_icmp .eq 17, 3) := by decide +kernel
theorem d_Mo_soundNode_124 : decode (mB m_Mo_soundNode) 124 = .ok (.iload_n 2, 1) := by decide +kernel
theorem d_Mo_soundNode_125 : decode (mB m_Mo_soundNode) 125 = .ok (.bipush 47, 2) := by decide +kernel
theorem d_Mo_soundNode_127 : decode (mB m_Mo_soundNode) 127 = .ok (.if_icmp .eq 11, 3) := by decide +kernel
theorem d_Mo_soundNode_130 : decode (mB m_Mo_soundNode) 130 = .ok (.iload_n 2, 1) := by decide +kernel
theorem d_Mo_soundNode_131 : decode (mB m_Mo_soundNode) 131 = .ok (.bipush 63, 2) := by decide +kernel
theorem d_Mo_soundNode_133 : decode (mB m_Mo_soundNode) 133 = .ok (.if_icmp .eq 5, 3) := by decide +kernel
theorem d_Mo_soundNode_136 : decode (mB m_Mo_soundNode) 136 = .ok (.iconst 1, 1) := by decide +kernel
theorem d_Mo_soundNode_137 : decode (mB m_Mo_soundNode) 137 = .ok (.ireturn, 1) := by decide +kernel
theorem d_Mo_soundNode_138 : decode (mB m_Mo_soundNode) 138 = .ok (.aload_n 0, 1) := by decide +kernel
theorem d_Mo_soundNode_139 : decode (mB m_Mo_soundNode) 139 = .ok (.getfield 87, 3) := by decide +kernel
theorem d_Mo_soundNode_142 : decode (mB m_Mo_soundNode) 142 = .ok (.iload_n 1, 1) := by decide +kernel
theorem d_Mo_soundNode_143 : decode (mB m_Mo_soundNode) 143 = .ok (.iaload, 1) := by decide +kernel
theorem d_Mo_soundNode_144 : decode (mB m_Mo_soundNode) 144 = .ok (.ifCond .ge 5, 3) := by decide +kernel
theorem d_Mo_soundNode_147 : decode (mB m_Mo_soundNode) 147 = .ok (.iconst 0, 1) := by decide +kernel
theorem d_Mo_soundNode_148 : decode (mB m_Mo_soundNode) 148 = .ok (.ireturn, 1) := by decide +kernel
theorem d_Mo_soundNode_149 : decode (mB m_Mo_soundNode) 149 = .ok (.iload_n 2, 1) := by decide +kernel
theorem d_Mo_soundNode_150 : decode (mB m_Mo_soundNode) 150 = .ok (.bipush 63, 2) := by decide +kernel
theorem d_Mo_soundNode_152 : decode (mB m_Mo_soundNode) 152 = .ok (.if_icmp .ne 9, 3) := by decide +kernel
theorem d_Mo_soundNode_155 : decode (mB m_Mo_soundNode) 155 = .ok (.aload_n 0, 1) := by decide +kernel
theorem d_Mo_soundNode_156 : decode (mB m_Mo_soundNode) 156 = .ok (.iload_n 1, 1) := by decide +kernel
theorem d_Mo_soundNode_157 : decode (mB m_Mo_soundNode) 157 = .ok (.invokevirtual 195, 3) := by decide +kernel
theorem d_Mo_soundNode_160 : decode (mB m_Mo_soundNode) 160 = .ok (.ireturn, 1) := by decide +kernel
theorem d_Mo_soundNode_161 : decode (mB m_Mo_soundNode) 161 = .ok (.iload_n 2, 1) := by decide +kernel
theorem d_Mo_soundNode_162 : decode (mB m_Mo_soundNode) 162 = .ok (.bipush 42, 2) := by decide +kernel
theorem d_Mo_soundNode_164 : decode (mB m_Mo_soundNode) 164 = .ok (.if_icmp .ne 27, 3) := by decide +kernel
theorem d_Mo_soundNode_167 : decode (mB m_Mo_soundNode) 167 = .ok (.aload_n 0, 1) := by decide +kernel
theorem d_Mo_soundNode_168 : decode (mB m_Mo_soundNode) 168 = .ok (.getfield 84, 3) := by decide +kernel
theorem d_Mo_soundNode_171 : decode (mB m_Mo_soundNode) 171 = .ok (.aload_n 0, 1) := by decide +kernel
theorem d_Mo_soundNode_172 : decode (mB m_Mo_soundNode) 172 = .ok (.getfield 54, 3) := by decide +kernel
theorem d_Mo_soundNode_175 : decode (mB m_Mo_soundNode) 175 = .ok (.iload_n 1, 1) := by decide +kernel
theorem d_Mo_soundNode_176 : decode (mB m_Mo_soundNode) 176 = .ok (.iaload, 1) := by decide +kernel
theorem d_Mo_soundNode_177 : decode (mB m_Mo_soundNode) 177 = .ok (.laload, 1) := by decide +kernel
theorem d_Mo_soundNode_178 : decode (mB m_Mo_soundNode) 178 = .ok (.lconst 0, 1) := by decide +kernel
theorem d_Mo_soundNode_179 : decode (mB m_Mo_soundNode) 179 = .ok (.lcmp, 1) := by decide +kernel
theorem d_Mo_soundNode_180 : decode (mB m_Mo_soundNode) 180 = .ok (.ifCond .le 7, 3) := by decide +kernel
theorem d_Mo_soundNode_183 : decode (mB m_Mo_soundNode) 183 = .ok (.iconst 1, 1) := by decide +kernel
theorem d_Mo_soundNode_184 : decode (mB m_Mo_soundNode) 184 = .ok (.goto 28, 3) := by decide +kernel
theorem d_Mo_soundNode_187 : decode (mB m_Mo_soundNode) 187 = .ok (.iconst 0, 1) := by decide +kernel
theorem d_Mo_soundNode_188 : decode (mB m_Mo_soundNode) 188 = .ok (.goto 24, 3) := by decide +kernel
theorem d_Mo_soundNode_191 : decode (mB m_Mo_soundNode) 191 = .ok (.aload_n 0, 1) := by decide +kernel
theorem d_Mo_soundNode_192 : decode (mB m_Mo_soundNode) 192 = .ok (.getfield 81, 3) := by decide +kernel
theorem d_Mo_soundNode_195 : decode (mB m_Mo_soundNode) 195 = .ok (.aload_n 0, 1) := by decide +kernel
theorem d_Mo_soundNode_196 : decode (mB m_Mo_soundNode) 196 = .ok (.getfield 54, 3) := by decide +kernel
theorem d_Mo_soundNode_199 : decode (mB m_Mo_soundNode) 199 = .ok (.iload_n 1, 1) := by decide +kernel
theorem d_Mo_soundNode_200 : decode (mB m_Mo_soundNode) 200 = .ok (.iaload, 1) := by decide +kernel
theorem d_Mo_soundNode_201 : decode (mB m_Mo_soundNode) 201 = .ok (.laload, 1) := by decide +kernel
theorem d_Mo_soundNode_202 : decode (mB m_Mo_soundNode) 202 = .ok (.lconst 0, 1) := by decide +kernel
theorem d_Mo_soundNode_203 : decode (mB m_Mo_soundNode) 203 = .ok (.lcmp, 1) := by decide +kernel
theorem d_Mo_soundNode_204 : decode (mB m_Mo_soundNode) 204 = .ok (.ifCond .le 7, 3) := by decide +kernel
theorem d_Mo_soundNode_207 : decode (mB m_Mo_soundNode) 207 = .ok (.iconst 1, 1) := by decide +kernel
theorem d_Mo_soundNode_208 : decode (mB m_Mo_soundNode) 208 = .ok (.goto 4, 3) := by decide +kernel
theorem d_Mo_soundNode_211 : decode (mB m_Mo_soundNode) 211 = .ok (.iconst 0, 1) := by decide +kernel
theorem d_Mo_soundNode_212 : decode (mB m_Mo_soundNode) 212 = .ok (.ireturn, 1) := by decide +kernel
theorem d_Mo_soundAll_0 : decode (mB m_Mo_soundAll) 0 = .ok (.iconst 0, 1) := by decide +kernel
theorem d_Mo_soundAll_1 : decode (mB m_Mo_soundAll) 1 = .ok (.istore_n 1, 1) := by decide +kernel
theorem d_Mo_soundAll_2 : decode (mB m_Mo_soundAll) 2 = .ok (.iload_n 1, 1) := by decide +kernel
theorem d_Mo_soundAll_3 : decode (mB m_Mo_soundAll) 3 = .ok (.aload_n 0, 1) := by decide +kernel
theorem d_Mo_soundAll_4 : decode (mB m_Mo_soundAll) 4 = .ok (.getfield 128, 3) := by decide +kernel
theorem d_Mo_soundAll_7 : decode (mB m_Mo_soundAll) 7 = .ok (.if_icmp .ge 78, 3) := by decide +kernel
theorem d_Mo_soundAll_10 : decode (mB m_Mo_soundAll) 10 = .ok (.aload_n 0, 1) := by decide +kernel
theorem d_Mo_soundAll_11 : decode (mB m_Mo_soundAll) 11 = .ok (.getfield 87, 3) := by decide +kernel
theorem d_Mo_soundAll_14 : decode (mB m_Mo_soundAll) 14 = .ok (.iload_n 1, 1) := by decide +kernel
theorem d_Mo_soundAll_15 : decode (mB m_Mo_soundAll) 15 = .ok (.iconst (-1), 1) := by decide +kernel
theorem d_Mo_soundAll_16 : decode (mB m_Mo_soundAll) 16 = .ok (.iastore, 1) := by decide +kernel
theorem d_Mo_soundAll_17 : decode (mB m_Mo_soundAll) 17 = .ok (.aload_n 0, 1) := by decide +kernel
theorem d_Mo_soundAll_18 : decode (mB m_Mo_soundAll) 18 = .ok (.aload_n 0, 1) := by decide +kernel
theorem d_Mo_soundAll_19 : decode (mB m_Mo_soundAll) 19 = .ok (.getfield 30, 3) := by decide +kernel
theorem d_Mo_soundAll_22 : decode (mB m_Mo_soundAll) 22 = .ok (.iload_n 1, 1) := by decide +kernel
theorem d_Mo_soundAll_23 : decode (mB m_Mo_soundAll) 23 = .ok (.iaload, 1) := by decide +kernel
theorem d_Mo_soundAll_24 : decode (mB m_Mo_soundAll) 24 = .ok (.invokevirtual 124, 3) := by decide +kernel
theorem d_Mo_soundAll_27 : decode (mB m_Mo_soundAll) 27 = .ok (.ifCond .eq 8, 3) := by decide +kernel
theorem d_Mo_soundAll_30 : decode (mB m_Mo_soundAll) 30 = .ok (.aload_n 0, 1) := by decide +kernel
theorem d_Mo_soundAll_31 : decode (mB m_Mo_soundAll) 31 = .ok (.iload_n 1, 1) := by decide +kernel
theorem d_Mo_soundAll_32 : decode (mB m_Mo_soundAll) 32 = .ok (.invokevirtual 198, 3) := by decide +kernel
theorem d_Mo_soundAll_35 : decode (mB m_Mo_soundAll) 35 = .ok (.aload_n 0, 1) := by decide +kernel
theorem d_Mo_soundAll_36 : decode (mB m_Mo_soundAll) 36 = .ok (.getfield 30, 3) := by decide +kernel
theorem d_Mo_soundAll_39 : decode (mB m_Mo_soundAll) 39 = .ok (.iload_n 1, 1) := by decide +kernel
theorem d_Mo_soundAll_40 : decode (mB m_Mo_soundAll) 40 = .ok (.iaload, 1) := by decide +kernel
theorem d_Mo_soundAll_41 : decode (mB m_Mo_soundAll) 41 = .ok (.bipush 42, 2) := by decide +kernel
theorem d_Mo_soundAll_43 : decode (mB m_Mo_soundAll) 43 = .ok (.if_icmp .eq 25, 3) := by decide +kernel
theorem d_Mo_soundAll_46 : decode (mB m_Mo_soundAll) 46 = .ok (.aload_n 0, 1) := by decide +kernel
theorem d_Mo_soundAll_47 : decode (mB m_Mo_soundAll) 47 = .ok (.getfield 30, 3) := by decide +kernel
theorem d_Mo_soundAll_50 : decode (mB m_Mo_soundAll) 50 = .ok (.iload_n 1, 1) := by decide +kernel
theorem d_Mo_soundAll_51 : decode (mB m_Mo_soundAll) 51 = .ok (.iaload, 1) := by decide +kernel
theorem d_Mo_soundAll_52 : decode (mB m_Mo_soundAll) 52 = .ok (.bipush 47, 2) := by decide +kernel
theorem d_Mo_soundAll_54 : decode (mB m_Mo_soundAll) 54 = .ok (.if_icmp .eq 14, 3) := by decide +kernel
theorem d_Mo_soundAll_57 : decode (mB m_Mo_soundAll) 57 = .ok (.aload_n 0, 1) := by decide +kernel
theorem d_Mo_soundAll_58 : decode (mB m_Mo_soundAll) 58 = .ok (.getfield 30, 3) := by decide +kernel
theorem d_Mo_soundAll_61 : decode (mB m_Mo_soundAll) 61 = .ok (.iload_n 1, 1) := by decide +kernel
theorem d_Mo_soundAll_62 : decode (mB m_Mo_soundAll) 62 = .ok (.iaload, 1) := by decide +kernel
theorem d_Mo_soundAll_63 : decode (mB m_Mo_soundAll) 63 = .ok (.bipush 63, 2) := by decide +kernel
theorem d_Mo_soundAll_65 : decode (mB m_Mo_soundAll) 65 = .ok (.if_icmp .ne 14, 3) := by decide +kernel
theorem d_Mo_soundAll_68 : decode (mB m_Mo_soundAll) 68 = .ok (.aload_n 0, 1) := by decide +kernel
theorem d_Mo_soundAll_69 : decode (mB m_Mo_soundAll) 69 = .ok (.getfield 87, 3) := by decide +kernel
theorem d_Mo_soundAll_72 : decode (mB m_Mo_soundAll) 72 = .ok (.iload_n 1, 1) := by decide +kernel
theorem d_Mo_soundAll_73 : decode (mB m_Mo_soundAll) 73 = .ok (.aload_n 0, 1) := by decide +kernel
theorem d_Mo_soundAll_74 : decode (mB m_Mo_soundAll) 74 = .ok (.iload_n 1, 1) := by decide +kernel
theorem d_Mo_soundAll_75 : decode (mB m_Mo_soundAll) 75 = .ok (.invokevirtual 201, 3) := by decide +kernel
theorem d_Mo_soundAll_78 : decode (mB m_Mo_soundAll) 78 = .ok (.iastore, 1) := by decide +kernel
theorem d_Mo_soundAll_79 : decode (mB m_Mo_soundAll) 79 = .ok (.iinc 1 1, 3) := by decide +kernel
theorem d_Mo_soundAll_82 : decode (mB m_Mo_soundAll) 82 = .ok (.goto (-80), 3) := by decide +kernel
theorem d_Mo_soundAll_85 : decode (mB m_Mo_soundAll) 85 = .ok (.aload_n 0, 1) := by decide +kernel
theorem d_Mo_soundAll_86 : decode (mB m_Mo_soundAll) 86 = .ok (.getfield 128, 3) := by decide +kernel
theorem d_Mo_soundAll_89 : decode (mB m_Mo_soundAll) 89 = .ok (.iconst 1, 1) := by decide +kernel
theorem d_Mo_soundAll_90 : decode (mB m_Mo_soundAll) 90 = .ok (.isub, 1) := by decide +kernel
theorem d_Mo_soundAll_91 : decode (mB m_Mo_soundAll) 91 = .ok (.istore_n 1, 1) := by decide +kernel
theorem d_Mo_soundAll_92 : decode (mB m_Mo_soundAll) 92 = .ok (.iload_n 1, 1) := by decide +kernel
theorem d_Mo_soundAll_93 : decode (mB m_Mo_soundAll) 93 = .ok (.ifCond .lt 14, 3) := by decide +kernel
theorem d_Mo_soundAll_96 : decode (mB m_Mo_soundAll) 96 = .ok (.aload_n 0, 1) := by decide +kernel
theorem d_Mo_soundAll_97 : decode (mB m_Mo_soundAll) 97 = .ok (.iload_n 1, 1) := by decide +kernel
theorem d_Mo_soundAll_98 : decode (mB m_Mo_soundAll) 98 = .ok (.invokevirtual 204, 3) := by decide +kernel
theorem d_Mo_soundAll_101 : decode (mB m_Mo_soundAll) 101 = .ok (.iinc 1 (-1), 3) := by decide +kernel
theorem d_Mo_soundAll_104 : decode (mB m_Mo_soundAll) 104 = .ok (.goto (-12), 3) := by decide +kernel
theorem d_Mo_soundAll_107 : decode (mB m_Mo_soundAll) 107 = .ok (.iconst 1, 1) := by decide +kernel
theorem d_Mo_soundAll_108 : decode (mB m_Mo_soundAll) 108 = .ok (.istore_n 1, 1) := by decide +kernel
theorem d_Mo_soundAll_109 : decode (mB m_Mo_soundAll) 109 = .ok (.iconst 0, 1) := by decide +kernel
theorem d_Mo_soundAll_110 : decode (mB m_Mo_soundAll) 110 = .ok (.istore_n 2, 1) := by decide +kernel
theorem d_Mo_soundAll_111 : decode (mB m_Mo_soundAll) 111 = .ok (.iload_n 2, 1) := by decide +kernel
theorem d_Mo_soundAll_112 : decode (mB m_Mo_soundAll) 112 = .ok (.aload_n 0, 1) := by decide +kernel
theorem d_Mo_soundAll_113 : decode (mB m_Mo_soundAll) 113 = .ok (.getfield 128, 3) := by decide +kernel
theorem d_Mo_soundAll_116 : decode (mB m_Mo_soundAll) 116 = .ok (.if_icmp .ge 17, 3) := by decide +kernel
theorem d_Mo_soundAll_119 : decode (mB m_Mo_soundAll) 119 = .ok (.iload_n 1, 1) := by decide +kernel
theorem d_Mo_soundAll_120 : decode (mB m_Mo_soundAll) 120 = .ok (.aload_n 0, 1) := by decide +kernel
theorem d_Mo_soundAll_121 : decode (mB m_Mo_soundAll) 121 = .ok (.iload_n 2, 1) := by decide +kernel
theorem d_Mo_soundAll_122 : decode (mB m_Mo_soundAll) 122 = .ok (.invokevirtual 207, 3) := by decide +kernel
theorem d_Mo_soundAll_125 : decode (mB m_Mo_soundAll) 125 = .ok (.iand, 1) := by decide +kernel
theorem d_Mo_soundAll_126 : decode (mB m_Mo_soundAll) 126 = .ok (.istore_n 1, 1) := by decide +kernel
theorem d_Mo_soundAll_127 : decode (mB m_Mo_soundAll) 127 = .ok (.iinc 2 1, 3) := by decide +kernel
theorem d_Mo_soundAll_130 : decode (mB m_Mo_soundAll) 130 = .ok (.goto (-19), 3) := by decide +kernel
theorem d_Mo_soundAll_133 : decode (mB m_Mo_soundAll) 133 = .ok (.iload_n 1, 1) := by decide +kernel
theorem d_Mo_soundAll_134 : decode (mB m_Mo_soundAll) 134 = .ok (.ireturn, 1) := by decide +kernel
theorem d_Mo_compile_0 : decode (mB m_Mo_compile) 0 = .ok (.aload_n 0, 1) := by decide +kernel
theorem d_Mo_compile_1 : decode (mB m_Mo_compile) 1 = .ok (.iconst 0, 1) := by decide +kernel
theorem d_Mo_compile_2 : decode (mB m_Mo_compile) 2 = .ok (.putfield 111, 3) := by decide +kernel
theorem d_Mo_compile_5 : decode (mB m_Mo_compile) 5 = .ok (.aload_n 0, 1) := by decide +kernel
theorem d_Mo_compile_6 : decode (mB m_Mo_compile) 6 = .ok (.iconst 0, 1) := by decide +kernel
theorem d_Mo_compile_7 : decode (mB m_Mo_compile) 7 = .ok (.putfield 210, 3) := by decide +kernel
theorem d_Mo_compile_10 : decode (mB m_Mo_compile) 10 = .ok (.aload_n 0, 1) := by decide +kernel
theorem d_Mo_compile_11 : decode (mB m_Mo_compile) 11 = .ok (.iconst 0, 1) := by decide +kernel
theorem d_Mo_compile_12 : decode (mB m_Mo_compile) 12 = .ok (.invokevirtual 169, 3) := by decide +kernel
theorem d_Mo_compile_15 : decode (mB m_Mo_compile) 15 = .ok (.bipush (-2), 2) := by decide +kernel
theorem d_Mo_compile_17 : decode (mB m_Mo_compile) 17 = .ok (.if_icmp .eq 9, 3) := by decide +kernel
theorem d_Mo_compile_20 : decode (mB m_Mo_compile) 20 = .ok (.aload_n 0, 1) := by decide +kernel
theorem d_Mo_compile_21 : decode (mB m_Mo_compile) 21 = .ok (.iconst 1, 1) := by decide +kernel
theorem d_Mo_compile_22 : decode (mB m_Mo_compile) 22 = .ok (.invokevirtual 114, 3) := by decide +kernel
theorem d_Mo_compile_25 : decode (mB m_Mo_compile) 25 = .ok (.ireturn, 1) := by decide +kernel
theorem d_Mo_compile_26 : decode (mB m_Mo_compile) 26 = .ok (.aload_n 0, 1) := by decide +kernel
theorem d_Mo_compile_27 : decode (mB m_Mo_compile) 27 = .ok (.invokevirtual 214, 3) := by decide +kernel
theorem d_Mo_compile_30 : decode (mB m_Mo_compile) 30 = .ok (.ifCond .ne 9, 3) := by decide +kernel
theorem d_Mo_compile_33 : decode (mB m_Mo_compile) 33 = .ok (.aload_n 0, 1) := by decide +kernel
theorem d_Mo_compile_34 : decode (mB m_Mo_compile) 34 = .ok (.iconst 2, 1) := by decide +kernel
theorem d_Mo_compile_35 : decode (mB m_Mo_compile) 35 = .ok (.invokevirtual 114, 3) := by decide +kernel
theorem d_Mo_compile_38 : decode (mB m_Mo_compile) 38 = .ok (.ireturn, 1) := by decide +kernel
theorem d_Mo_compile_39 : decode (mB m_Mo_compile) 39 = .ok (.aload_n 0, 1) := by decide +kernel
theorem d_Mo_compile_40 : decode (mB m_Mo_compile) 40 = .ok (.iconst 1, 1) := by decide +kernel
theorem d_Mo_compile_41 : decode (mB m_Mo_compile) 41 = .ok (.putfield 210, 3) := by decide +kernel
theorem d_Mo_compile_44 : decode (mB m_Mo_compile) 44 = .ok (.aload_n 0, 1) := by decide +kernel
theorem d_Mo_compile_45 : decode (mB m_Mo_compile) 45 = .ok (.aload_n 0, 1) := by decide +kernel
theorem d_Mo_compile_46 : decode (mB m_Mo_compile) 46 = .ok (.getfield 118, 3) := by decide +kernel
theorem d_Mo_compile_49 : decode (mB m_Mo_compile) 49 = .ok (.putfield 159, 3) := by decide +kernel
theorem d_Mo_compile_52 : decode (mB m_Mo_compile) 52 = .ok (.iconst 0, 1) := by decide +kernel
theorem d_Mo_compile_53 : decode (mB m_Mo_compile) 53 = .ok (.istore_n 1, 1) := by decide +kernel
theorem d_Mo_compile_54 : decode (mB m_Mo_compile) 54 = .ok (.iload_n 1, 1) := by decide +kernel
theorem d_Mo_compile_55 : decode (mB m_Mo_compile) 55 = .ok (.aload_n 0, 1) := by decide +kernel
theorem d_Mo_compile_56 : decode (mB m_Mo_compile) 56 = .ok (.getfield 118, 3) := by decide +kernel
theorem d_Mo_compile_59 : decode (mB m_Mo_compile) 59 = .ok (.if_icmp .ge 21, 3) := by decide +kernel
theorem d_Mo_compile_62 : decode (mB m_Mo_compile) 62 = .ok (.aload_n 0, 1) := by decide +kernel
theorem d_Mo_compile_63 : decode (mB m_Mo_compile) 63 = .ok (.getfield 13, 3) := by decide +kernel
theorem d_Mo_compile_66 : decode (mB m_Mo_compile) 66 = .ok (.iload_n 1, 1) := by decide +kernel
theorem d_Mo_compile_67 : decode (mB m_Mo_compile) 67 = .ok (.aload_n 0, 1) := by decide +kernel
theorem d_Mo_compile_68 : decode (mB m_Mo_compile) 68 = .ok (.getfield 7, 3) := by decide +kernel
theorem d_Mo_compile_71 : decode (mB m_Mo_compile) 71 = .ok (.iload_n 1, 1) := by decide +kernel
theorem d_Mo_compile_72 : decode (mB m_Mo_compile) 72 = .ok (.iaload, 1) := by decide +kernel
theorem d_Mo_compile_73 : decode (mB m_Mo_compile) 73 = .ok (.iastore, 1) := by decide +kernel
theorem d_Mo_compile_74 : decode (mB m_Mo_compile) 74 = .ok (.iinc 1 1, 3) := by decide +kernel
theorem d_Mo_compile_77 : decode (mB m_Mo_compile) 77 = .ok (.goto (-23), 3) := by decide +kernel
theorem d_Mo_compile_80 : decode (mB m_Mo_compile) 80 = .ok (.aload_n 0, 1) := by decide +kernel
theorem d_Mo_compile_81 : decode (mB m_Mo_compile) 81 = .ok (.getfield 84, 3) := by decide +kernel
theorem d_Mo_compile_84 : decode (mB m_Mo_compile) 84 = .ok (.iconst 0, 1) := by decide +kernel
theorem d_Mo_compile_85 : decode (mB m_Mo_compile) 85 = .ok (.laload, 1) := by decide +kernel
theorem d_Mo_compile_86 : decode (mB m_Mo_compile) 86 = .ok (.l2i, 1) := by decide +kernel
theorem d_Mo_compile_87 : decode (mB m_Mo_compile) 87 = .ok (.ireturn, 1) := by decide +kernel
