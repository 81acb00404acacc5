theorem d_Mo_inStructure_0 : decode (mB m_Mo_inStructure) 0 = .ok (.aload_n 0, 1) := by decide +kernel
theorem d_Mo_inStructure_1 : decode (mB m_Mo_inStructure) 1 = .ok (.getfield 121, 3) := by decide +kernel
theorem d_Mo_inStructure_4 : decode (mB m_Mo_inStructure) 4 = .ok (.iconst 1, 1) := by decide +kernel
theorem d_Mo_inStructure_5 : decode (mB m_Mo_inStructure) 5 = .ok (.isub, 1) := by decide +kernel
theorem d_Mo_inStructure_6 : decode (mB m_Mo_inStructure) 6 = .ok (.istore_n 2, 1) := by decide +kernel
theorem d_Mo_inStructure_7 : decode (mB m_Mo_inStructure) 7 = .ok (.aload_n 0, 1) := by decide +kernel
theorem d_Mo_inStructure_8 : decode (mB m_Mo_inStructure) 8 = .ok (.getfield 66, 3) := by decide +kernel
theorem d_Mo_inStructure_11 : decode (mB m_Mo_inStructure) 11 = .ok (.iload_n 2, 1) := by decide +kernel
theorem d_Mo_inStructure_12 : decode (mB m_Mo_inStructure) 12 = .ok (.iaload, 1) := by decide +kernel
theorem d_Mo_inStructure_13 : decode (mB m_Mo_inStructure) 13 = .ok (.ifCond .ne 54, 3) := by decide +kernel
theorem d_Mo_inStructure_16 : decode (mB m_Mo_inStructure) 16 = .ok (.iload_n 1, 1) := by decide +kernel
theorem d_Mo_inStructure_17 : decode (mB m_Mo_inStructure) 17 = .ok (.bipush 125, 2) := by decide +kernel
theorem d_Mo_inStructure_19 : decode (mB m_Mo_inStructure) 19 = .ok (.if_icmp .ne 9, 3) := by decide +kernel
theorem d_Mo_inStructure_22 : decode (mB m_Mo_inStructure) 22 = .ok (.aload_n 0, 1) := by decide +kernel
theorem d_Mo_inStructure_23 : decode (mB m_Mo_inStructure) 23 = .ok (.invokevirtual 135, 3) := by decide +kernel
theorem d_Mo_inStructure_26 : decode (mB m_Mo_inStructure) 26 = .ok (.iconst 1, 1) := by decide +kernel
theorem d_Mo_inStructure_27 : decode (mB m_Mo_inStructure) 27 = .ok (.ireturn, 1) := by decide +kernel
theorem d_Mo_inStructure_28 : decode (mB m_Mo_inStructure) 28 = .ok (.aload_n 0, 1) := by decide +kernel
theorem d_Mo_inStructure_29 : decode (mB m_Mo_inStructure) 29 = .ok (.getfield 72, 3) := by decide +kernel
theorem d_Mo_inStructure_32 : decode (mB m_Mo_inStructure) 32 = .ok (.iload_n 2, 1) := by decide +kernel
theorem d_Mo_inStructure_33 : decode (mB m_Mo_inStructure) 33 = .ok (.iload_n 1, 1) := by decide +kernel
theorem d_Mo_inStructure_34 : decode (mB m_Mo_inStructure) 34 = .ok (.bipush 97, 2) := by decide +kernel
theorem d_Mo_inStructure_36 : decode (mB m_Mo_inStructure) 36 = .ok (.isub, 1) := by decide +kernel
theorem d_Mo_inStructure_37 : decode (mB m_Mo_inStructure) 37 = .ok (.iastore, 1) := by decide +kernel
theorem d_Mo_inStructure_38 : decode (mB m_Mo_inStructure) 38 = .ok (.aload_n 0, 1) := by decide +kernel
theorem d_Mo_inStructure_39 : decode (mB m_Mo_inStructure) 39 = .ok (.getfield 66, 3) := by decide +kernel
theorem d_Mo_inStructure_42 : decode (mB m_Mo_inStructure) 42 = .ok (.iload_n 2, 1) := by decide +kernel
theorem d_Mo_inStructure_43 : decode (mB m_Mo_inStructure) 43 = .ok (.iconst 1, 1) := by decide +kernel
theorem d_Mo_inStructure_44 : decode (mB m_Mo_inStructure) 44 = .ok (.iastore, 1) := by decide +kernel
theorem d_Mo_inStructure_45 : decode (mB m_Mo_inStructure) 45 = .ok (.aload_n 0, 1) := by decide +kernel
theorem d_Mo_inStructure_46 : decode (mB m_Mo_inStructure) 46 = .ok (.iload_n 1, 1) := by decide +kernel
theorem d_Mo_inStructure_47 : decode (mB m_Mo_inStructure) 47 = .ok (.invokevirtual 141, 3) := by decide +kernel
theorem d_Mo_inStructure_50 : decode (mB m_Mo_inStructure) 50 = .ok (.ifCond .eq 15, 3) := by decide +kernel
theorem d_Mo_inStructure_53 : decode (mB m_Mo_inStructure) 53 = .ok (.aload_n 0, 1) := by decide +kernel
theorem d_Mo_inStructure_54 : decode (mB m_Mo_inStructure) 54 = .ok (.getfield 121, 3) := by decide +kernel
theorem d_Mo_inStructure_57 : decode (mB m_Mo_inStructure) 57 = .ok (.iconst 5, 1) := by decide +kernel
theorem d_Mo_inStructure_58 : decode (mB m_Mo_inStructure) 58 = .ok (.if_icmp .ge 7, 3) := by decide +kernel
theorem d_Mo_inStructure_61 : decode (mB m_Mo_inStructure) 61 = .ok (.iconst 1, 1) := by decide +kernel
theorem d_Mo_inStructure_62 : decode (mB m_Mo_inStructure) 62 = .ok (.goto 4, 3) := by decide +kernel
theorem d_Mo_inStructure_65 : decode (mB m_Mo_inStructure) 65 = .ok (.iconst 0, 1) := by decide +kernel
theorem d_Mo_inStructure_66 : decode (mB m_Mo_inStructure) 66 = .ok (.ireturn, 1) := by decide +kernel
theorem d_Mo_inStructure_67 : decode (mB m_Mo_inStructure) 67 = .ok (.aload_n 0, 1) := by decide +kernel
theorem d_Mo_inStructure_68 : decode (mB m_Mo_inStructure) 68 = .ok (.getfield 66, 3) := by decide +kernel
theorem d_Mo_inStructure_71 : decode (mB m_Mo_inStructure) 71 = .ok (.iload_n 2, 1) := by decide +kernel
theorem d_Mo_inStructure_72 : decode (mB m_Mo_inStructure) 72 = .ok (.iaload, 1) := by decide +kernel
theorem d_Mo_inStructure_73 : decode (mB m_Mo_inStructure) 73 = .ok (.iconst 2, 1) := by decide +kernel
theorem d_Mo_inStructure_74 : decode (mB m_Mo_inStructure) 74 = .ok (.if_icmp .ne 9, 3) := by decide +kernel
theorem d_Mo_inStructure_77 : decode (mB m_Mo_inStructure) 77 = .ok (.aload_n 0, 1) := by decide +kernel
theorem d_Mo_inStructure_78 : decode (mB m_Mo_inStructure) 78 = .ok (.iload_n 1, 1) := by decide +kernel
theorem d_Mo_inStructure_79 : decode (mB m_Mo_inStructure) 79 = .ok (.invokevirtual 144, 3) := by decide +kernel
theorem d_Mo_inStructure_82 : decode (mB m_Mo_inStructure) 82 = .ok (.ireturn, 1) := by decide +kernel
theorem d_Mo_inStructure_83 : decode (mB m_Mo_inStructure) 83 = .ok (.aload_n 0, 1) := by decide +kernel
theorem d_Mo_inStructure_84 : decode (mB m_Mo_inStructure) 84 = .ok (.getfield 66, 3) := by decide +kernel
theorem d_Mo_inStructure_87 : decode (mB m_Mo_inStructure) 87 = .ok (.iload_n 2, 1) := by decide +kernel
theorem d_Mo_inStructure_88 : decode (mB m_Mo_inStructure) 88 = .ok (.aload_n 0, 1) := by decide +kernel
theorem d_Mo_inStructure_89 : decode (mB m_Mo_inStructure) 89 = .ok (.getfield 66, 3) := by decide +kernel
theorem d_Mo_inStructure_92 : decode (mB m_Mo_inStructure) 92 = .ok (.iload_n 2, 1) := by decide +kernel
theorem d_Mo_inStructure_93 : decode (mB m_Mo_inStructure) 93 = .ok (.iaload, 1) := by decide +kernel
theorem d_Mo_inStructure_94 : decode (mB m_Mo_inStructure) 94 = .ok (.iconst 1, 1) := by decide +kernel
theorem d_Mo_inStructure_95 : decode (mB m_Mo_inStructure) 95 = .ok (.if_icmp .ne 7, 3) := by decide +kernel
theorem d_Mo_inStructure_98 : decode (mB m_Mo_inStructure) 98 = .ok (.iconst 2, 1) := by decide +kernel
theorem d_Mo_inStructure_99 : decode (mB m_Mo_inStructure) 99 = .ok (.goto 4, 3) := by decide +kernel
theorem d_Mo_inStructure_102 : decode (mB m_Mo_inStructure) 102 = .ok (.iconst 0, 1) := by decide +kernel
theorem d_Mo_inStructure_103 : decode (mB m_Mo_inStructure) 103 = .ok (.iastore, 1) := by decide +kernel
theorem d_Mo_inStructure_104 : decode (mB m_Mo_inStructure) 104 = .ok (.iload_n 1, 1) := by decide +kernel
theorem d_Mo_inStructure_105 : decode (mB m_Mo_inStructure) 105 = .ok (.aload_n 0, 1) := by decide +kernel
theorem d_Mo_inStructure_106 : decode (mB m_Mo_inStructure) 106 = .ok (.getfield 66, 3) := by decide +kernel
theorem d_Mo_inStructure_109 : decode (mB m_Mo_inStructure) 109 = .ok (.iload_n 2, 1) := by decide +kernel
theorem d_Mo_inStructure_110 : decode (mB m_Mo_inStructure) 110 = .ok (.iaload, 1) := by decide +kernel
theorem d_Mo_inStructure_111 : decode (mB m_Mo_inStructure) 111 = .ok (.iconst 2, 1) := by decide +kernel
theorem d_Mo_inStructure_112 : decode (mB m_Mo_inStructure) 112 = .ok (.if_icmp .ne 8, 3) := by decide +kernel
theorem d_Mo_inStructure_115 : decode (mB m_Mo_inStructure) 115 = .ok (.bipush 58, 2) := by decide +kernel
theorem d_Mo_inStructure_117 : decode (mB m_Mo_inStructure) 117 = .ok (.goto 5, 3) := by decide +kernel
theorem d_Mo_inStructure_120 : decode (mB m_Mo_inStructure) 120 = .ok (.bipush 59, 2) := by decide +kernel
theorem d_Mo_inStructure_122 : decode (mB m_Mo_inStructure) 122 = .ok (.if_icmp .ne 7, 3) := by decide +kernel
theorem d_Mo_inStructure_125 : decode (mB m_Mo_inStructure) 125 = .ok (.iconst 1, 1) := by decide +kernel
theorem d_Mo_inStructure_126 : decode (mB m_Mo_inStructure) 126 = .ok (.goto 4, 3) := by decide +kernel
theorem d_Mo_inStructure_129 : decode (mB m_Mo_inStructure) 129 = .ok (.iconst 0, 1) := by decide +kernel
theorem d_Mo_inStructure_130 : decode (mB m_Mo_inStructure) 130 = .ok (.ireturn, 1) := by decide +kernel
theorem d_Mo_inChoice_0 : decode (mB m_Mo_inChoice) 0 = .ok (.aload_n 0, 1) := by decide +kernel
theorem d_Mo_inChoice_1 : decode (mB m_Mo_inChoice) 1 = .ok (.getfield 121, 3) := by decide +kernel
theorem d_Mo_inChoice_4 : decode (mB m_Mo_inChoice) 4 = .ok (.iconst 1, 1) := by decide +kernel
theorem d_Mo_inChoice_5 : decode (mB m_Mo_inChoice) 5 = .ok (.isub, 1) := by decide +kernel
theorem d_Mo_inChoice_6 : decode (mB m_Mo_inChoice) 6 = .ok (.istore_n 2, 1) := by decide +kernel
theorem d_Mo_inChoice_7 : decode (mB m_Mo_inChoice) 7 = .ok (.aload_n 0, 1) := by decide +kernel
theorem d_Mo_inChoice_8 : decode (mB m_Mo_inChoice) 8 = .ok (.getfield 63, 3) := by decide +kernel
theorem d_Mo_inChoice_11 : decode (mB m_Mo_inChoice) 11 = .ok (.iload_n 2, 1) := by decide +kernel
theorem d_Mo_inChoice_12 : decode (mB m_Mo_inChoice) 12 = .ok (.iaload, 1) := by decide +kernel
theorem d_Mo_inChoice_13 : decode (mB m_Mo_inChoice) 13 = .ok (.istore_n 3, 1) := by decide +kernel
theorem d_Mo_inChoice_14 : decode (mB m_Mo_inChoice) 14 = .ok (.aload_n 0, 1) := by decide +kernel
theorem d_Mo_inChoice_15 : decode (mB m_Mo_inChoice) 15 = .ok (.getfield 66, 3) := by decide +kernel
theorem d_Mo_inChoice_18 : decode (mB m_Mo_inChoice) 18 = .ok (.iload_n 2, 1) := by decide +kernel
theorem d_Mo_inChoice_19 : decode (mB m_Mo_inChoice) 19 = .ok (.iaload, 1) := by decide +kernel
theorem d_Mo_inChoice_20 : decode (mB m_Mo_inChoice) 20 = .ok (.iconst 4, 1) := by decide +kernel
theorem d_Mo_inChoice_21 : decode (mB m_Mo_inChoice) 21 = .ok (.if_icmp .ne 9, 3) := by decide +kernel
theorem d_Mo_inChoice_24 : decode (mB m_Mo_inChoice) 24 = .ok (.aload_n 0, 1) := by decide +kernel
theorem d_Mo_inChoice_25 : decode (mB m_Mo_inChoice) 25 = .ok (.iload_n 1, 1) := by decide +kernel
theorem d_Mo_inChoice_26 : decode (mB m_Mo_inChoice) 26 = .ok (.invokevirtual 144, 3) := by decide +kernel
theorem d_Mo_inChoice_29 : decode (mB m_Mo_inChoice) 29 = .ok (.ireturn, 1) := by decide +kernel
theorem d_Mo_inChoice_30 : decode (mB m_Mo_inChoice) 30 = .ok (.aload_n 0, 1) := by decide +kernel
theorem d_Mo_inChoice_31 : decode (mB m_Mo_inChoice) 31 = .ok (.getfield 66, 3) := by decide +kernel
theorem d_Mo_inChoice_34 : decode (mB m_Mo_inChoice) 34 = .ok (.iload_n 2, 1) := by decide +kernel
theorem d_Mo_inChoice_35 : decode (mB m_Mo_inChoice) 35 = .ok (.iaload, 1) := by decide +kernel
theorem d_Mo_inChoice_36 : decode (mB m_Mo_inChoice) 36 = .ok (.ifCond .ne 26, 3) := by decide +kernel
theorem d_Mo_inChoice_39 : decode (mB m_Mo_inChoice) 39 = .ok (.aload_n 0, 1) := by decide +kernel
theorem d_Mo_inChoice_40 : decode (mB m_Mo_inChoice) 40 = .ok (.getfield 42, 3) := by decide +kernel
theorem d_Mo_inChoice_43 : decode (mB m_Mo_inChoice) 43 = .ok (.iload_n 3, 1) := by decide +kernel
theorem d_Mo_inChoice_44 : decode (mB m_Mo_inChoice) 44 = .ok (.iload_n 1, 1) := by decide +kernel
theorem d_Mo_inChoice_45 : decode (mB m_Mo_inChoice) 45 = .ok (.bipush 97, 2) := by decide +kernel
theorem d_Mo_inChoice_47 : decode (mB m_Mo_inChoice) 47 = .ok (.isub, 1) := by decide +kernel
theorem d_Mo_inChoice_48 : decode (mB m_Mo_inChoice) 48 = .ok (.iastore, 1) := by decide +kernel
theorem d_Mo_inChoice_49 : decode (mB m_Mo_inChoice) 49 = .ok (.aload_n 0, 1) := by decide +kernel
theorem d_Mo_inChoice_50 : decode (mB m_Mo_inChoice) 50 = .ok (.getfield 66, 3) := by decide +kernel
theorem d_Mo_inChoice_53 : decode (mB m_Mo_inChoice) 53 = .ok (.iload_n 2, 1) := by decide +kernel
theorem d_Mo_inChoice_54 : decode (mB m_Mo_inChoice) 54 = .ok (.iconst 1, 1) := by decide +kernel
theorem d_Mo_inChoice_55 : decode (mB m_Mo_inChoice) 55 = .ok (.iastore, 1) := by decide +kernel
theorem d_Mo_inChoice_56 : decode (mB m_Mo_inChoice) 56 = .ok (.aload_n 0, 1) := by decide +kernel
theorem d_Mo_inChoice_57 : decode (mB m_Mo_inChoice) 57 = .ok (.iload_n 1, 1) := by decide +kernel
theorem d_Mo_inChoice_58 : decode (mB m_Mo_inChoice) 58 = .ok (.invokevirtual 141, 3) := by decide +kernel
theorem d_Mo_inChoice_61 : decode (mB m_Mo_inChoice) 61 = .ok (.ireturn, 1) := by decide +kernel
theorem d_Mo_inChoice_62 : decode (mB m_Mo_inChoice) 62 = .ok (.aload_n 0, 1) := by decide +kernel
theorem d_Mo_inChoice_63 : decode (mB m_Mo_inChoice) 63 = .ok (.getfield 66, 3) := by decide +kernel
theorem d_Mo_inChoice_66 : decode (mB m_Mo_inChoice) 66 = .ok (.iload_n 2, 1) := by decide +kernel
theorem d_Mo_inChoice_67 : decode (mB m_Mo_inChoice) 67 = .ok (.iaload, 1) := by decide +kernel
theorem d_Mo_inChoice_68 : decode (mB m_Mo_inChoice) 68 = .ok (.iconst 1, 1) := by decide +kernel
theorem d_Mo_inChoice_69 : decode (mB m_Mo_inChoice) 69 = .ok (.if_icmp .eq 13, 3) := by decide +kernel
theorem d_Mo_inChoice_72 : decode (mB m_Mo_inChoice) 72 = .ok (.aload_n 0, 1) := by decide +kernel
theorem d_Mo_inChoice_73 : decode (mB m_Mo_inChoice) 73 = .ok (.getfield 66, 3) := by decide +kernel
theorem d_Mo_inChoice_76 : decode (mB m_Mo_inChoice) 76 = .ok (.iload_n 2, 1) := by decide +kernel
theorem d_Mo_inChoice_77 : decode (mB m_Mo_inChoice) 77 = .ok (.iaload, 1) := by decide +kernel
theorem d_Mo_inChoice_78 : decode (mB m_Mo_inChoice) 78 = .ok (.iconst 5, 1) := by decide +kernel
theorem d_Mo_inChoice_79 : decode (mB m_Mo_inChoice) 79 = .ok (.if_icmp .ne 41, 3) := by decide +kernel
theorem d_Mo_inChoice_82 : decode (mB m_Mo_inChoice) 82 = .ok (.aload_n 0, 1) := by decide +kernel
theorem d_Mo_inChoice_83 : decode (mB m_Mo_inChoice) 83 = .ok (.getfield 66, 3) := by decide +kernel
theorem d_Mo_inChoice_86 : decode (mB m_Mo_inChoice) 86 = .ok (.iload_n 2, 1) := by decide +kernel
theorem d_Mo_inChoice_87 : decode (mB m_Mo_inChoice) 87 = .ok (.iaload, 1) := by decide +kernel
theorem d_Mo_inChoice_88 : decode (mB m_Mo_inChoice) 88 = .ok (.iconst 1, 1) := by decide +kernel
theorem d_Mo_inChoice_89 : decode (mB m_Mo_inChoice) 89 = .ok (.if_icmp .ne 8, 3) := by decide +kernel
theorem d_Mo_inChoice_92 : decode (mB m_Mo_inChoice) 92 = .ok (.bipush 123, 2) := by decide +kernel
theorem d_Mo_inChoice_94 : decode (mB m_Mo_inChoice) 94 = .ok (.goto 5, 3) := by decide +kernel
theorem d_Mo_inChoice_97 : decode (mB m_Mo_inChoice) 97 = .ok (.bipush 59, 2) := by decide +kernel
theorem d_Mo_inChoice_99 : decode (mB m_Mo_inChoice) 99 = .ok (.istore 4, 2) := by decide +kernel
theorem d_Mo_inChoice_101 : decode (mB m_Mo_inChoice) 101 = .ok (.aload_n 0, 1) := by decide +kernel
theorem d_Mo_inChoice_102 : decode (mB m_Mo_inChoice) 102 = .ok (.getfield 66, 3) := by decide +kernel
theorem d_Mo_inChoice_105 : decode (mB m_Mo_inChoice) 105 = .ok (.iload_n 2, 1) := by decide +kernel
theorem d_Mo_inChoice_106 : decode (mB m_Mo_inChoice) 106 = .ok (.iconst 2, 1) := by decide +kernel
theorem d_Mo_inChoice_107 : decode (mB m_Mo_inChoice) 107 = .ok (.iastore, 1) := by decide +kernel
theorem d_Mo_inChoice_108 : decode (mB m_Mo_inChoice) 108 = .ok (.iload_n 1, 1) := by decide +kernel
theorem d_Mo_inChoice_109 : decode (mB m_Mo_inChoice) 109 = .ok (.iload 4, 2) := by decide +kernel
theorem d_Mo_inChoice_111 : decode (mB m_Mo_inChoice) 111 = .ok (.if_icmp .ne 7, 3) := by decide +kernel
theorem d_Mo_inChoice_114 : decode (mB m_Mo_inChoice) 114 = .ok (.iconst 1, 1) := by decide +kernel
theorem d_Mo_inChoice_115 : decode (mB m_Mo_inChoice) 115 = .ok (.goto 4, 3) := by decide +kernel
theorem d_Mo_inChoice_118 : decode (mB m_Mo_inChoice) 118 = .ok (.iconst 0, 1) := by decide +kernel
theorem d_Mo_inChoice_119 : decode (mB m_Mo_inChoice) 119 = .ok (.ireturn, 1) := by decide +kernel
theorem d_Mo_inChoice_120 : decode (mB m_Mo_inChoice) 120 = .ok (.aload_n 0, 1) := by decide +kernel
theorem d_Mo_inChoice_121 : decode (mB m_Mo_inChoice) 121 = .ok (.getfield 66, 3) := by decide +kernel
theorem d_Mo_inChoice_124 : decode (mB m_Mo_inChoice) 124 = .ok (.iload_n 2, 1) := by decide +kernel
theorem d_Mo_inChoice_125 : decode (mB m_Mo_inChoice) 125 = .ok (.iaload, 1) := by decide +kernel
theorem d_Mo_inChoice_126 : decode (mB m_Mo_inChoice) 126 = .ok (.iconst 2, 1) := by decide +kernel
theorem d_Mo_inChoice_127 : decode (mB m_Mo_inChoice) 127 = .ok (.if_icmp .ne 24, 3) := by decide +kernel
theorem d_Mo_inChoice_130 : decode (mB m_Mo_inChoice) 130 = .ok (.iload_n 1, 1) := by decide +kernel
theorem d_Mo_inChoice_131 : decode (mB m_Mo_inChoice) 131 = .ok (.bipush 125, 2) := by decide +kernel
theorem d_Mo_inChoice_133 : decode (mB m_Mo_inChoice) 133 = .ok (.if_icmp .ne 18, 3) := by decide +kernel
theorem d_Mo_inChoice_136 : decode (mB m_Mo_inChoice) 136 = .ok (.aload_n 0, 1) := by decide +kernel
theorem d_Mo_inChoice_137 : decode (mB m_Mo_inChoice) 137 = .ok (.getfield 54, 3) := by decide +kernel
theorem d_Mo_inChoice_140 : decode (mB m_Mo_inChoice) 140 = .ok (.iload_n 3, 1) := by decide +kernel
theorem d_Mo_inChoice_141 : decode (mB m_Mo_inChoice) 141 = .ok (.iaload, 1) := by decide +kernel
theorem d_Mo_inChoice_142 : decode (mB m_Mo_inChoice) 142 = .ok (.ifCond .lt 9, 3) := by decide +kernel
theorem d_Mo_inChoice_145 : decode (mB m_Mo_inChoice) 145 = .ok (.aload_n 0, 1) := by decide +kernel
theorem d_Mo_inChoice_146 : decode (mB m_Mo_inChoice) 146 = .ok (.invokevirtual 135, 3) := by decide +kernel
theorem d_Mo_inChoice_149 : decode (mB m_Mo_inChoice) 149 = .ok (.iconst 1, 1) := by decide +kernel
theorem d_Mo_inChoice_150 : decode (mB m_Mo_inChoice) 150 = .ok (.ireturn, 1) := by decide +kernel
theorem d_Mo_inChoice_151 : decode (mB m_Mo_inChoice) 151 = .ok (.aload_n 0, 1) := by decide +kernel
theorem d_Mo_inChoice_152 : decode (mB m_Mo_inChoice) 152 = .ok (.iload_n 1, 1) := by decide +kernel
theorem d_Mo_inChoice_153 : decode (mB m_Mo_inChoice) 153 = .ok (.invokevirtual 138, 3) := by decide +kernel
theorem d_Mo_inChoice_156 : decode (mB m_Mo_inChoice) 156 = .ok (.ifCond .eq 97, 3) := by decide +kernel
theorem d_Mo_inChoice_159 : decode (mB m_Mo_inChoice) 159 = .ok (.aload_n 0, 1) := by decide +kernel
theorem d_Mo_inChoice_160 : decode (mB m_Mo_inChoice) 160 = .ok (.getfield 66, 3) := by decide +kernel
theorem d_Mo_inChoice_163 : decode (mB m_Mo_inChoice) 163 = .ok (.iload_n 2, 1) := by decide +kernel
theorem d_Mo_inChoice_164 : decode (mB m_Mo_inChoice) 164 = .ok (.iaload, 1) := by decide +kernel
theorem d_Mo_inChoice_165 : decode (mB m_Mo_inChoice) 165 = .ok (.iconst 2, 1) := by decide +kernel
theorem d_Mo_inChoice_166 : decode (mB m_Mo_inChoice) 166 = .ok (.if_icmp .eq 13, 3) := by decide +kernel
theorem d_Mo_inChoice_169 : decode (mB m_Mo_inChoice) 169 = .ok (.aload_n 0, 1) := by decide +kernel
theorem d_Mo_inChoice_170 : decode (mB m_Mo_inChoice) 170 = .ok (.getfield 69, 3) := by decide +kernel
theorem d_Mo_inChoice_173 : decode (mB m_Mo_inChoice) 173 = .ok (.iload_n 2, 1) := by decide +kernel
theorem d_Mo_inChoice_174 : decode (mB m_Mo_inChoice) 174 = .ok (.iaload, 1) := by decide +kernel
theorem d_Mo_inChoice_175 : decode (mB m_Mo_inChoice) 175 = .ok (.iconst 3, 1) := by decide +kernel
theorem d_Mo_inChoice_176 : decode (mB m_Mo_inChoice) 176 = .ok (.if_icmp .ge 77, 3) := by decide +kernel
theorem d_Mo_inChoice_179 : decode (mB m_Mo_inChoice) 179 = .ok (.aload_n 0, 1) := by decide +kernel
theorem d_Mo_inChoice_180 : decode (mB m_Mo_inChoice) 180 = .ok (.getfield 72, 3) := by decide +kernel
theorem d_Mo_inChoice_183 : decode (mB m_Mo_inChoice) 183 = .ok (.iload_n 2, 1) := by decide +kernel
theorem d_Mo_inChoice_184 : decode (mB m_Mo_inChoice) 184 = .ok (.aload_n 0, 1) := by decide +kernel
theorem d_Mo_inChoice_185 : decode (mB m_Mo_inChoice) 185 = .ok (.getfield 66, 3) := by decide +kernel
theorem d_Mo_inChoice_188 : decode (mB m_Mo_inChoice) 188 = .ok (.iload_n 2, 1) := by decide +kernel
theorem d_Mo_inChoice_189 : decode (mB m_Mo_inChoice) 189 = .ok (.iaload, 1) := by decide +kernel
theorem d_Mo_inChoice_190 : decode (mB m_Mo_inChoice) 190 = .ok (.iconst 2, 1) := by decide +kernel
theorem d_Mo_inChoice_191 : decode (mB m_Mo_inChoice) 191 = .ok (.if_icmp .ne 10, 3) := by decide +kernel
theorem d_Mo_inChoice_194 : decode (mB m_Mo_inChoice) 194 = .ok (.iload_n 1, 1) := by decide +kernel
theorem d_Mo_inChoice_195 : decode (mB m_Mo_inChoice) 195 = .ok (.bipush 48, 2) := by decide +kernel
theorem d_Mo_inChoice_197 : decode (mB m_Mo_inChoice) 197 = .ok (.isub, 1) := by decide +kernel
theorem d_Mo_inChoice_198 : decode (mB m_Mo_inChoice) 198 = .ok (.goto 17, 3) := by decide +kernel
theorem d_Mo_inChoice_201 : decode (mB m_Mo_inChoice) 201 = .ok (.aload_n 0, 1) := by decide +kernel
theorem d_Mo_inChoice_202 : decode (mB m_Mo_inChoice) 202 = .ok (.getfield 72, 3) := by decide +kernel
theorem d_Mo_inChoice_205 : decode (mB m_Mo_inChoice) 205 = .ok (.iload_n 2, 1) := by decide +kernel
theorem d_Mo_inChoice_206 : decode (mB m_Mo_inChoice) 206 = .ok (.iaload, 1) := by decide +kernel
theorem d_Mo_inChoice_207 : decode (mB m_Mo_inChoice) 207 = .ok (.bipush 10, 2) := by decide +kernel
theorem d_Mo_inChoice_209 : decode (mB m_Mo_inChoice) 209 = .ok (.imul, 1) := by decide +kernel
theorem d_Mo_inChoice_210 : decode (mB m_Mo_inChoice) 210 = .ok (.iload_n 1, 1) := by decide +kernel
theorem d_Mo_inChoice_211 : decode (mB m_Mo_inChoice) 211 = .ok (.iadd, 1) := by decide +kernel
theorem d_Mo_inChoice_212 : decode (mB m_Mo_inChoice) 212 = .ok (.bipush 48, 2) := by decide +kernel
theorem d_Mo_inChoice_214 : decode (mB m_Mo_inChoice) 214 = .ok (.isub, 1) := by decide +kernel
theorem d_Mo_inChoice_215 : decode (mB m_Mo_inChoice) 215 = .ok (.iastore, 1) := by decide +kernel
theorem d_Mo_inChoice_216 : decode (mB m_Mo_inChoice) 216 = .ok (.aload_n 0, 1) := by decide +kernel
theorem d_Mo_inChoice_217 : decode (mB m_Mo_inChoice) 217 = .ok (.getfield 69, 3) := by decide +kernel
theorem d_Mo_inChoice_220 : decode (mB m_Mo_inChoice) 220 = .ok (.iload_n 2, 1) := by decide +kernel
theorem d_Mo_inChoice_221 : decode (mB m_Mo_inChoice) 221 = .ok (.aload_n 0, 1) := by decide +kernel
theorem d_Mo_inChoice_222 : decode (mB m_Mo_inChoice) 222 = .ok (.getfield 66, 3) := by decide +kernel
theorem d_Mo_inChoice_225 : decode (mB m_Mo_inChoice) 225 = .ok (.iload_n 2, 1) := by decide +kernel
theorem d_Mo_inChoice_226 : decode (mB m_Mo_inChoice) 226 = .ok (.iaload, 1) := by decide +kernel
theorem d_Mo_inChoice_227 : decode (mB m_Mo_inChoice) 227 = .ok (.iconst 2, 1) := by decide +kernel
theorem d_Mo_inChoice_228 : decode (mB m_Mo_inChoice) 228 = .ok (.if_icmp .ne 7, 3) := by decide +kernel
theorem d_Mo_inChoice_231 : decode (mB m_Mo_inChoice) 231 = .ok (.iconst 1, 1) := by decide +kernel
theorem d_Mo_inChoice_232 : decode (mB m_Mo_inChoice) 232 = .ok (.goto 11, 3) := by decide +kernel
theorem d_Mo_inChoice_235 : decode (mB m_Mo_inChoice) 235 = .ok (.aload_n 0, 1) := by decide +kernel
theorem d_Mo_inChoice_236 : decode (mB m_Mo_inChoice) 236 = .ok (.getfield 69, 3) := by decide +kernel
theorem d_Mo_inChoice_239 : decode (mB m_Mo_inChoice) 239 = .ok (.iload_n 2, 1) := by decide +kernel
theorem d_Mo_inChoice_240 : decode (mB m_Mo_inChoice) 240 = .ok (.iaload, 1) := by decide +kernel
theorem d_Mo_inChoice_241 : decode (mB m_Mo_inChoice) 241 = .ok (.iconst 1, 1) := by decide +kernel
theorem d_Mo_inChoice_242 : decode (mB m_Mo_inChoice) 242 = .ok (.iadd, 1) := by decide +kernel
theorem d_Mo_inChoice_243 : decode (mB m_Mo_inChoice) 243 = .ok (.iastore, 1) := by decide +kernel
theorem d_Mo_inChoice_244 : decode (mB m_Mo_inChoice) 244 = .ok (.aload_n 0, 1) := by decide +kernel
theorem d_Mo_inChoice_245 : decode (mB m_Mo_inChoice) 245 = .ok (.getfield 66, 3) := by decide +kernel
theorem d_Mo_inChoice_248 : decode (mB m_Mo_inChoice) 248 = .ok (.iload_n 2, 1) := by decide +kernel
theorem d_Mo_inChoice_249 : decode (mB m_Mo_inChoice) 249 = .ok (.iconst 3, 1) := by decide +kernel
theorem d_Mo_inChoice_250 : decode (mB m_Mo_inChoice) 250 = .ok (.iastore, 1) := by decide +kernel
theorem d_Mo_inChoice_251 : decode (mB m_Mo_inChoice) 251 = .ok (.iconst 1, 1) := by decide +kernel
theorem d_Mo_inChoice_252 : decode (mB m_Mo_inChoice) 252 = .ok (.ireturn, 1) := by decide +kernel
theorem d_Mo_inChoice_253 : decode (mB m_Mo_inChoice) 253 = .ok (.aload_n 0, 1) := by decide +kernel
theorem d_Mo_inChoice_254 : decode (mB m_Mo_inChoice) 254 = .ok (.getfield 66, 3) := by decide +kernel
theorem d_Mo_inChoice_257 : decode (mB m_Mo_inChoice) 257 = .ok (.iload_n 2, 1) := by decide +kernel
theorem d_Mo_inChoice_258 : decode (mB m_Mo_inChoice) 258 = .ok (.iaload, 1) := by decide +kernel
theorem d_Mo_inChoice_259 : decode (mB m_Mo_inChoice) 259 = .ok (.iconst 3, 1) := by decide +kernel
theorem d_Mo_inChoice_260 : decode (mB m_Mo_inChoice) 260 = .ok (.if_icmp .ne 13, 3) := by decide +kernel
theorem d_Mo_inChoice_263 : decode (mB m_Mo_inChoice) 263 = .ok (.iload_n 1, 1) := by decide +kernel
theorem d_Mo_inChoice_264 : decode (mB m_Mo_inChoice) 264 = .ok (.bipush 58, 2) := by decide +kernel
theorem d_Mo_inChoice_266 : decode (mB m_Mo_inChoice) 266 = .ok (.if_icmp .ne 7, 3) := by decide +kernel
theorem d_Mo_inChoice_269 : decode (mB m_Mo_inChoice) 269 = .ok (.iconst 1, 1) := by decide +kernel
theorem d_Mo_inChoice_270 : decode (mB m_Mo_inChoice) 270 = .ok (.goto 4, 3) := by decide +kernel
theorem d_Mo_inChoice_273 : decode (mB m_Mo_inChoice) 273 = .ok (.iconst 0, 1) := by decide +kernel
theorem d_Mo_inChoice_274 : decode (mB m_Mo_inChoice) 274 = .ok (.istore 4, 2) := by decide +kernel
theorem d_Mo_inChoice_276 : decode (mB m_Mo_inChoice) 276 = .ok (.aload_n 0, 1) := by decide +kernel
theorem d_Mo_inChoice_277 : decode (mB m_Mo_inChoice) 277 = .ok (.getfield 66, 3) := by decide +kernel
theorem d_Mo_inChoice_280 : decode (mB m_Mo_inChoice) 280 = .ok (.iload_n 2, 1) := by decide +kernel
theorem d_Mo_inChoice_281 : decode (mB m_Mo_inChoice) 281 = .ok (.iconst 4, 1) := by decide +kernel
theorem d_Mo_inChoice_282 : decode (mB m_Mo_inChoice) 282 = .ok (.iastore, 1) := by decide +kernel
theorem d_Mo_inChoice_283 : decode (mB m_Mo_inChoice) 283 = .ok (.iload 4, 2) := by decide +kernel
theorem d_Mo_inChoice_285 : decode (mB m_Mo_inChoice) 285 = .ok (.ireturn, 1) := by decide +kernel
theorem d_Mo_inMany_0 : decode (mB m_Mo_inMany) 0 = .ok (.aload_n 0, 1) := by decide +kernel
theorem d_Mo_inMany_1 : decode (mB m_Mo_inMany) 1 = .ok (.getfield 121, 3) := by decide +kernel
theorem d_Mo_inMany_4 : decode (mB m_Mo_inMany) 4 = .ok (.iconst 1, 1) := by decide +kernel
theorem d_Mo_inMany_5 : decode (mB m_Mo_inMany) 5 = .ok (.isub, 1) := by decide +kernel
theorem d_Mo_inMany_6 : decode (mB m_Mo_inMany) 6 = .ok (.istore_n 2, 1) := by decide +kernel
theorem d_Mo_inMany_7 : decode (mB m_Mo_inMany) 7 = .ok (.aload_n 0, 1) := by decide +kernel
theorem d_Mo_inMany_8 : decode (mB m_Mo_inMany) 8 = .ok (.getfield 66, 3) := by decide +kernel
theorem d_Mo_inMany_11 : decode (mB m_Mo_inMany) 11 = .ok (.iload_n 2, 1) := by decide +kernel
theorem d_Mo_inMany_12 : decode (mB m_Mo_inMany) 12 = .ok (.iaload, 1) := by decide +kernel
theorem d_Mo_inMany_13 : decode (mB m_Mo_inMany) 13 = .ok (.iconst 1, 1) := by decide +kernel
theorem d_Mo_inMany_14 : decode (mB m_Mo_inMany) 14 = .ok (.if_icmp .ne 9, 3) := by decide +kernel
theorem d_Mo_inMany_17 : decode (mB m_Mo_inMany) 17 = .ok (.aload_n 0, 1) := by decide +kernel
theorem d_Mo_inMany_18 : decode (mB m_Mo_inMany) 18 = .ok (.iload_n 1, 1) := by decide +kernel
theorem d_Mo_inMany_19 : decode (mB m_Mo_inMany) 19 = .ok (.invokevirtual 144, 3) := by decide +kernel
theorem d_Mo_inMany_22 : decode (mB m_Mo_inMany) 22 = .ok (.ireturn, 1) := by decide +kernel
theorem d_Mo_inMany_23 : decode (mB m_Mo_inMany) 23 = .ok (.aload_n 0, 1) := by decide +kernel
theorem d_Mo_inMany_24 : decode (mB m_Mo_inMany) 24 = .ok (.getfield 42, 3) := by decide +kernel
theorem d_Mo_inMany_27 : decode (mB m_Mo_inMany) 27 = .ok (.aload_n 0, 1) := by decide +kernel
theorem d_Mo_inMany_28 : decode (mB m_Mo_inMany) 28 = .ok (.getfield 63, 3) := by decide +kernel
theorem d_Mo_inMany_31 : decode (mB m_Mo_inMany) 31 = .ok (.iload_n 2, 1) := by decide +kernel
theorem d_Mo_inMany_32 : decode (mB m_Mo_inMany) 32 = .ok (.iaload, 1) := by decide +kernel
theorem d_Mo_inMany_33 : decode (mB m_Mo_inMany) 33 = .ok (.iload_n 1, 1) := by decide +kernel
theorem d_Mo_inMany_34 : decode (mB m_Mo_inMany) 34 = .ok (.bipush 97, 2) := by decide +kernel
theorem d_Mo_inMany_36 : decode (mB m_Mo_inMany) 36 = .ok (.isub, 1) := by decide +kernel
theorem d_Mo_inMany_37 : decode (mB m_Mo_inMany) 37 = .ok (.iastore, 1) := by decide +kernel
theorem d_Mo_inMany_38 : decode (mB m_Mo_inMany) 38 = .ok (.aload_n 0, 1) := by decide +kernel
theorem d_Mo_inMany_39 : decode (mB m_Mo_inMany) 39 = .ok (.getfield 66, 3) := by decide +kernel
theorem d_Mo_inMany_42 : decode (mB m_Mo_inMany) 42 = .ok (.iload_n 2, 1) := by decide +kernel
theorem d_Mo_inMany_43 : decode (mB m_Mo_inMany) 43 = .ok (.iconst 1, 1) := by decide +kernel
theorem d_Mo_inMany_44 : decode (mB m_Mo_inMany) 44 = .ok (.iastore, 1) := by decide +kernel
theorem d_Mo_inMany_45 : decode (mB m_Mo_inMany) 45 = .ok (.aload_n 0, 1) := by decide +kernel
theorem d_Mo_inMany_46 : decode (mB m_Mo_inMany) 46 = .ok (.iload_n 1, 1) := by decide +kernel
theorem d_Mo_inMany_47 : decode (mB m_Mo_inMany) 47 = .ok (.invokevirtual 141, 3) := by decide +kernel
theorem d_Mo_inMany_50 : decode (mB m_Mo_inMany) 50 = .ok (.ireturn, 1) := by decide +kernel
theorem d_Mo_sign_0 : decode (mB m_Mo_sign) 0 = .ok (.aload_n 0, 1) := by decide +kernel
theorem d_Mo_sign_1 : decode (mB m_Mo_sign) 1 = .ok (.getfield 128, 3) := by decide +kernel
theorem d_Mo_sign_4 : decode (mB m_Mo_sign) 4 = .ok (.ifCond .ne 9, 3) := by decide +kernel
theorem d_Mo_sign_7 : decode (mB m_Mo_sign) 7 = .ok (.aload_n 0, 1) := by decide +kernel
theorem d_Mo_sign_8 : decode (mB m_Mo_sign) 8 = .ok (.iload_n 1, 1) := by decide +kernel
theorem d_Mo_sign_9 : decode (mB m_Mo_sign) 9 = .ok (.invokevirtual 144, 3) := by decide +kernel
theorem d_Mo_sign_12 : decode (mB m_Mo_sign) 12 = .ok (.ireturn, 1) := by decide +kernel
theorem d_Mo_sign_13 : decode (mB m_Mo_sign) 13 = .ok (.aload_n 0, 1) := by decide +kernel
theorem d_Mo_sign_14 : decode (mB m_Mo_sign) 14 = .ok (.getfield 121, 3) := by decide +kernel
theorem d_Mo_sign_17 : decode (mB m_Mo_sign) 17 = .ok (.ifCond .le 48, 3) := by decide +kernel
theorem d_Mo_sign_20 : decode (mB m_Mo_sign) 20 = .ok (.aload_n 0, 1) := by decide +kernel
theorem d_Mo_sign_21 : decode (mB m_Mo_sign) 21 = .ok (.aload_n 0, 1) := by decide +kernel
theorem d_Mo_sign_22 : decode (mB m_Mo_sign) 22 = .ok (.getfield 30, 3) := by decide +kernel
theorem d_Mo_sign_25 : decode (mB m_Mo_sign) 25 = .ok (.aload_n 0, 1) := by decide +kernel
theorem d_Mo_sign_26 : decode (mB m_Mo_sign) 26 = .ok (.getfield 63, 3) := by decide +kernel
theorem d_Mo_sign_29 : decode (mB m_Mo_sign) 29 = .ok (.aload_n 0, 1) := by decide +kernel
theorem d_Mo_sign_30 : decode (mB m_Mo_sign) 30 = .ok (.getfield 121, 3) := by decide +kernel
theorem d_Mo_sign_33 : decode (mB m_Mo_sign) 33 = .ok (.iconst 1, 1) := by decide +kernel
theorem d_Mo_sign_34 : decode (mB m_Mo_sign) 34 = .ok (.isub, 1) := by decide +kernel
theorem d_Mo_sign_35 : decode (mB m_Mo_sign) 35 = .ok (.iaload, 1) := by decide +kernel
theorem d_Mo_sign_36 : decode (mB m_Mo_sign) 36 = .ok (.iaload, 1) := by decide +kernel
theorem d_Mo_sign_37 : decode (mB m_Mo_sign) 37 = .ok (.invokevirtual 124, 3) := by decide +kernel
theorem d_Mo_sign_40 : decode (mB m_Mo_sign) 40 = .ok (.ifCond .eq 25, 3) := by decide +kernel
theorem d_Mo_sign_43 : decode (mB m_Mo_sign) 43 = .ok (.aload_n 0, 1) := by decide +kernel
theorem d_Mo_sign_44 : decode (mB m_Mo_sign) 44 = .ok (.iload_n 1, 1) := by decide +kernel
theorem d_Mo_sign_45 : decode (mB m_Mo_sign) 45 = .ok (.invokevirtual 147, 3) := by decide +kernel
theorem d_Mo_sign_48 : decode (mB m_Mo_sign) 48 = .ok (.istore_n 2, 1) := by decide +kernel
theorem d_Mo_sign_49 : decode (mB m_Mo_sign) 49 = .ok (.iload_n 2, 1) := by decide +kernel
theorem d_Mo_sign_50 : decode (mB m_Mo_sign) 50 = .ok (.iconst 2, 1) := by decide +kernel
theorem d_Mo_sign_51 : decode (mB m_Mo_sign) 51 = .ok (.if_icmp .ge 14, 3) := by decide +kernel
theorem d_Mo_sign_54 : decode (mB m_Mo_sign) 54 = .ok (.iload_n 2, 1) := by decide +kernel
theorem d_Mo_sign_55 : decode (mB m_Mo_sign) 55 = .ok (.iconst 1, 1) := by decide +kernel
theorem d_Mo_sign_56 : decode (mB m_Mo_sign) 56 = .ok (.if_icmp .ne 7, 3) := by decide +kernel
theorem d_Mo_sign_59 : decode (mB m_Mo_sign) 59 = .ok (.iconst 1, 1) := by decide +kernel
theorem d_Mo_sign_60 : decode (mB m_Mo_sign) 60 = .ok (.goto 4, 3) := by decide +kernel
theorem d_Mo_sign_63 : decode (mB m_Mo_sign) 63 = .ok (.iconst 0, 1) := by decide +kernel
theorem d_Mo_sign_64 : decode (mB m_Mo_sign) 64 = .ok (.ireturn, 1) := by decide +kernel
theorem d_Mo_sign_65 : decode (mB m_Mo_sign) 65 = .ok (.aload_n 0, 1) := by decide +kernel
theorem d_Mo_sign_66 : decode (mB m_Mo_sign) 66 = .ok (.getfield 121, 3) := by decide +kernel
theorem d_Mo_sign_69 : decode (mB m_Mo_sign) 69 = .ok (.ifCond .ne 5, 3) := by decide +kernel
theorem d_Mo_sign_72 : decode (mB m_Mo_sign) 72 = .ok (.iconst 0, 1) := by decide +kernel
theorem d_Mo_sign_73 : decode (mB m_Mo_sign) 73 = .ok (.ireturn, 1) := by decide +kernel
theorem d_Mo_sign_74 : decode (mB m_Mo_sign) 74 = .ok (.aload_n 0, 1) := by decide +kernel
theorem d_Mo_sign_75 : decode (mB m_Mo_sign) 75 = .ok (.getfield 30, 3) := by decide +kernel
theorem d_Mo_sign_78 : decode (mB m_Mo_sign) 78 = .ok (.aload_n 0, 1) := by decide +kernel
theorem d_Mo_sign_79 : decode (mB m_Mo_sign) 79 = .ok (.getfield 63, 3) := by decide +kernel
theorem d_Mo_sign_82 : decode (mB m_Mo_sign) 82 = .ok (.aload_n 0, 1) := by decide +kernel
theorem d_Mo_sign_83 : decode (mB m_Mo_sign) 83 = .ok (.getfield 121, 3) := by decide +kernel
theorem d_Mo_sign_86 : decode (mB m_Mo_sign) 86 = .ok (.iconst 1, 1) := by decide +kernel
theorem d_Mo_sign_87 : decode (mB m_Mo_sign) 87 = .ok (.isub, 1) := by decide +kernel
theorem d_Mo_sign_88 : decode (mB m_Mo_sign) 88 = .ok (.iaload, 1) := by decide +kernel
theorem d_Mo_sign_89 : decode (mB m_Mo_sign) 89 = .ok (.iaload, 1) := by decide +kernel
theorem d_Mo_sign_90 : decode (mB m_Mo_sign) 90 = .ok (.istore_n 2, 1) := by decide +kernel
theorem d_Mo_sign_91 : decode (mB m_Mo_sign) 91 = .ok (.iload_n 2, 1) := by decide +kernel
theorem d_Mo_sign_92 : decode (mB m_Mo_sign) 92 = .ok (.bipush 123, 2) := by decide +kernel
theorem d_Mo_sign_94 : decode (mB m_Mo_sign) 94 = .ok (.if_icmp .ne 11, 3) := by decide +kernel
theorem d_Mo_sign_97 : decode (mB m_Mo_sign) 97 = .ok (.aload_n 0, 1) := by decide +kernel
theorem d_Mo_sign_98 : decode (mB m_Mo_sign) 98 = .ok (.iload_n 1, 1) := by decide +kernel
theorem d_Mo_sign_99 : decode (mB m_Mo_sign) 99 = .ok (.invokevirtual 150, 3) := by decide +kernel
theorem d_Mo_sign_102 : decode (mB m_Mo_sign) 102 = .ok (.goto 22, 3) := by decide +kernel
theorem d_Mo_sign_105 : decode (mB m_Mo_sign) 105 = .ok (.iload_n 2, 1) := by decide +kernel
theorem d_Mo_sign_106 : decode (mB m_Mo_sign) 106 = .ok (.bipush 63, 2) := by decide +kernel
theorem d_Mo_sign_108 : decode (mB m_Mo_sign) 108 = .ok (.if_icmp .ne 11, 3) := by decide +kernel
theorem d_Mo_sign_111 : decode (mB m_Mo_sign) 111 = .ok (.aload_n 0, 1) := by decide +kernel
theorem d_Mo_sign_112 : decode (mB m_Mo_sign) 112 = .ok (.iload_n 1, 1) := by decide +kernel
theorem d_Mo_sign_113 : decode (mB m_Mo_sign) 113 = .ok (.invokevirtual 153, 3) := by decide +kernel
theorem d_Mo_sign_116 : decode (mB m_Mo_sign) 116 = .ok (.goto 8, 3) := by decide +kernel
theorem d_Mo_sign_119 : decode (mB m_Mo_sign) 119 = .ok (.aload_n 0, 1) := by decide +kernel
theorem d_Mo_sign_120 : decode (mB m_Mo_sign) 120 = .ok (.iload_n 1, 1) := by decide +kernel
theorem d_Mo_sign_121 : decode (mB m_Mo_sign) 121 = .ok (.invokevirtual 156, 3) := by decide +kernel
theorem d_Mo_sign_124 : decode (mB m_Mo_sign) 124 = .ok (.ireturn, 1) := by decide +kernel
theorem d_Mo_wholeNow_0 : decode (mB m_Mo_wholeNow) 0 = .ok (.aload_n 0, 1) := by decide +kernel
theorem d_Mo_wholeNow_1 : decode (mB m_Mo_wholeNow) 1 = .ok (.getfield 128, 3) := by decide +kernel
theorem d_Mo_wholeNow_4 : decode (mB m_Mo_wholeNow) 4 = .ok (.ifCond .ne 5, 3) := by decide +kernel
theorem d_Mo_wholeNow_7 : decode (mB m_Mo_wholeNow) 7 = .ok (.iconst 0, 1) := by decide +kernel
theorem d_Mo_wholeNow_8 : decode (mB m_Mo_wholeNow) 8 = .ok (.ireturn, 1) := by decide +kernel
theorem d_Mo_wholeNow_9 : decode (mB m_Mo_wholeNow) 9 = .ok (.aload_n 0, 1) := by decide +kernel
theorem d_Mo_wholeNow_10 : decode (mB m_Mo_wholeNow) 10 = .ok (.getfield 121, 3) := by decide +kernel
theorem d_Mo_wholeNow_13 : decode (mB m_Mo_wholeNow) 13 = .ok (.ifCond .ne 5, 3) := by decide +kernel
theorem d_Mo_wholeNow_16 : decode (mB m_Mo_wholeNow) 16 = .ok (.iconst 1, 1) := by decide +kernel
theorem d_Mo_wholeNow_17 : decode (mB m_Mo_wholeNow) 17 = .ok (.ireturn, 1) := by decide +kernel
theorem d_Mo_wholeNow_18 : decode (mB m_Mo_wholeNow) 18 = .ok (.aload_n 0, 1) := by decide +kernel
theorem d_Mo_wholeNow_19 : decode (mB m_Mo_wholeNow) 19 = .ok (.aload_n 0, 1) := by decide +kernel
theorem d_Mo_wholeNow_20 : decode (mB m_Mo_wholeNow) 20 = .ok (.getfield 30, 3) := by decide +kernel
theorem d_Mo_wholeNow_23 : decode (mB m_Mo_wholeNow) 23 = .ok (.aload_n 0, 1) := by decide +kernel
theorem d_Mo_wholeNow_24 : decode (mB m_Mo_wholeNow) 24 = .ok (.getfield 63, 3) := by decide +kernel
theorem d_Mo_wholeNow_27 : decode (mB m_Mo_wholeNow) 27 = .ok (.aload_n 0, 1) := by decide +kernel
theorem d_Mo_wholeNow_28 : decode (mB m_Mo_wholeNow) 28 = .ok (.getfield 121, 3) := by decide +kernel
theorem d_Mo_wholeNow_31 : decode (mB m_Mo_wholeNow) 31 = .ok (.iconst 1, 1) := by decide +kernel
theorem d_Mo_wholeNow_32 : decode (mB m_Mo_wholeNow) 32 = .ok (.isub, 1) := by decide +kernel
theorem d_Mo_wholeNow_33 : decode (mB m_Mo_wholeNow) 33 = .ok (.iaload, 1) := by decide +kernel
theorem d_Mo_wholeNow_34 : decode (mB m_Mo_wholeNow) 34 = .ok (.iaload, 1) := by decide +kernel
theorem d_Mo_wholeNow_35 : decode (mB m_Mo_wholeNow) 35 = .ok (.invokevirtual 124, 3) := by decide +kernel
theorem d_Mo_wholeNow_38 : decode (mB m_Mo_wholeNow) 38 = .ok (.ifCond .eq 33, 3) := by decide +kernel
theorem d_Mo_wholeNow_41 : decode (mB m_Mo_wholeNow) 41 = .ok (.aload_n 0, 1) := by decide +kernel
theorem d_Mo_wholeNow_42 : decode (mB m_Mo_wholeNow) 42 = .ok (.getfield 66, 3) := by decide +kernel
theorem d_Mo_wholeNow_45 : decode (mB m_Mo_wholeNow) 45 = .ok (.aload_n 0, 1) := by decide +kernel
theorem d_Mo_wholeNow_46 : decode (mB m_Mo_wholeNow) 46 = .ok (.getfield 121, 3) := by decide +kernel
theorem d_Mo_wholeNow_49 : decode (mB m_Mo_wholeNow) 49 = .ok (.iconst 1, 1) := by decide +kernel
theorem d_Mo_wholeNow_50 : decode (mB m_Mo_wholeNow) 50 = .ok (.isub, 1) := by decide +kernel
theorem d_Mo_wholeNow_51 : decode (mB m_Mo_wholeNow) 51 = .ok (.iaload, 1) := by decide +kernel
theorem d_Mo_wholeNow_52 : decode (mB m_Mo_wholeNow) 52 = .ok (.iconst 1, 1) := by decide +kernel
theorem d_Mo_wholeNow_53 : decode (mB m_Mo_wholeNow) 53 = .ok (.if_icmp .eq 20, 3) := by decide +kernel
theorem d_Mo_wholeNow_56 : decode (mB m_Mo_wholeNow) 56 = .ok (.aload_n 0, 1) := by decide +kernel
theorem d_Mo_wholeNow_57 : decode (mB m_Mo_wholeNow) 57 = .ok (.getfield 66, 3) := by decide +kernel
theorem d_Mo_wholeNow_60 : decode (mB m_Mo_wholeNow) 60 = .ok (.aload_n 0, 1) := by decide +kernel
theorem d_Mo_wholeNow_61 : decode (mB m_Mo_wholeNow) 61 = .ok (.getfield 121, 3) := by decide +kernel
theorem d_Mo_wholeNow_64 : decode (mB m_Mo_wholeNow) 64 = .ok (.iconst 1, 1) := by decide +kernel
theorem d_Mo_wholeNow_65 : decode (mB m_Mo_wholeNow) 65 = .ok (.isub, 1) := by decide +kernel
theorem d_Mo_wholeNow_66 : decode (mB m_Mo_wholeNow) 66 = .ok (.iaload, 1) := by decide +kernel
theorem d_Mo_wholeNow_67 : decode (mB m_Mo_wholeNow) 67 = .ok (.iconst 3, 1) := by decide +kernel
theorem d_Mo_wholeNow_68 : decode (mB m_Mo_wholeNow) 68 = .ok (.if_icmp .eq 5, 3) := by decide +kernel
theorem d_Mo_wholeNow_71 : decode (mB m_Mo_wholeNow) 71 = .ok (.iconst 0, 1) := by decide +kernel
theorem d_Mo_wholeNow_72 : decode (mB m_Mo_wholeNow) 72 = .ok (.ireturn, 1) := by decide +kernel
theorem d_Mo_wholeNow_73 : decode (mB m_Mo_wholeNow) 73 = .ok (.iconst 0, 1) := by decide +kernel
theorem d_Mo_wholeNow_74 : decode (mB m_Mo_wholeNow) 74 = .ok (.istore_n 1, 1) := by decide +kernel
theorem d_Mo_wholeNow_75 : decode (mB m_Mo_wholeNow) 75 = .ok (.iload_n 1, 1) := by decide +kernel
theorem d_Mo_wholeNow_76 : decode (mB m_Mo_wholeNow) 76 = .ok (.aload_n 0, 1) := by decide +kernel
theorem d_Mo_wholeNow_77 : decode (mB m_Mo_wholeNow) 77 = .ok (.getfield 121, 3) := by decide +kernel
theorem d_Mo_wholeNow_80 : decode (mB m_Mo_wholeNow) 80 = .ok (.iconst 1, 1) := by decide +kernel
theorem d_Mo_wholeNow_81 : decode (mB m_Mo_wholeNow) 81 = .ok (.isub, 1) := by decide +kernel
theorem d_Mo_wholeNow_82 : decode (mB m_Mo_wholeNow) 82 = .ok (.if_icmp .ge 43, 3) := by decide +kernel
theorem d_Mo_wholeNow_85 : decode (mB m_Mo_wholeNow) 85 = .ok (.aload_n 0, 1) := by decide +kernel
theorem d_Mo_wholeNow_86 : decode (mB m_Mo_wholeNow) 86 = .ok (.getfield 30, 3) := by decide +kernel
theorem d_Mo_wholeNow_89 : decode (mB m_Mo_wholeNow) 89 = .ok (.aload_n 0, 1) := by decide +kernel
theorem d_Mo_wholeNow_90 : decode (mB m_Mo_wholeNow) 90 = .ok (.getfield 63, 3) := by decide +kernel
theorem d_Mo_wholeNow_93 : decode (mB m_Mo_wholeNow) 93 = .ok (.iload_n 1, 1) := by decide +kernel
theorem d_Mo_wholeNow_94 : decode (mB m_Mo_wholeNow) 94 = .ok (.iaload, 1) := by decide +kernel
theorem d_Mo_wholeNow_95 : decode (mB m_Mo_wholeNow) 95 = .ok (.iaload, 1) := by decide +kernel
theorem d_Mo_wholeNow_96 : decode (mB m_Mo_wholeNow) 96 = .ok (.bipush 42, 2) := by decide +kernel
theorem d_Mo_wholeNow_98 : decode (mB m_Mo_wholeNow) 98 = .ok (.if_icmp .eq 21, 3) := by decide +kernel
theorem d_Mo_wholeNow_101 : decode (mB m_Mo_wholeNow) 101 = .ok (.aload_n 0, 1) := by decide +kernel
theorem d_Mo_wholeNow_102 : decode (mB m_Mo_wholeNow) 102 = .ok (.getfield 30, 3) := by decide +kernel
theorem d_Mo_wholeNow_105 : decode (mB m_Mo_wholeNow) 105 = .ok (.aload_n 0, 1) := by decide +kernel
theorem d_Mo_wholeNow_106 : decode (mB m_Mo_wholeNow) 106 = .ok (.getfield 63, 3) := by decide +kernel
theorem d_Mo_wholeNow_109 : decode (mB m_Mo_wholeNow) 109 = .ok (.iload_n 1, 1) := by decide +kernel
theorem d_Mo_wholeNow_110 : decode (mB m_Mo_wholeNow) 110 = .ok (.iaload, 1) := by decide +kernel
theorem d_Mo_wholeNow_111 : decode (mB m_Mo_wholeNow) 111 = .ok (.iaload, 1) := by decide +kernel
theorem d_Mo_wholeNow_112 : decode (mB m_Mo_wholeNow) 112 = .ok (.bipush 47, 2) := by decide +kernel
theorem d_Mo_wholeNow_114 : decode (mB m_Mo_wholeNow) 114 = .ok (.if_icmp .eq 5, 3) := by decide +kernel
theorem d_Mo_wholeNow_117 : decode (mB m_Mo_wholeNow) 117 = .ok (.iconst 0, 1) := by decide +kernel
theorem d_Mo_wholeNow_118 : decode (mB m_Mo_wholeNow) 118 = .ok (.ireturn, 1) := by decide +kernel
theorem d_Mo_wholeNow_119 : decode (mB m_Mo_wholeNow) 119 = .ok (.iinc 1 1, 3) := by decide +kernel
theorem d_Mo_wholeNow_122 : decode (mB m_Mo_wholeNow) 122 = .ok (.goto (-47), 3) := by decide +kernel
theorem d_Mo_wholeNow_125 : decode (mB m_Mo_wholeNow) 125 = .ok (.iconst 1, 1) := by decide +kernel
theorem d_Mo_wholeNow_126 : decode (mB m_Mo_wholeNow) 126 = .ok (.ireturn, 1) := by decide +kernel
theorem d_Mo_scan_0 : decode (mB m_Mo_scan) 0 = .ok (.aload_n 0, 1) := by decide +kernel
theorem d_Mo_scan_1 : decode (mB m_Mo_scan) 1 = .ok (.iconst 0, 1) := by decide +kernel
theorem d_Mo_scan_2 : decode (mB m_Mo_scan) 2 = .ok (.putfield 128, 3) := by decide +kernel
theorem d_Mo_scan_5 : decode (mB m_Mo_scan) 5 = .ok (.aload_n 0, 1) := by decide +kernel
theorem d_Mo_scan_6 : decode (mB m_Mo_scan) 6 = .ok (.iconst 0, 1) := by decide +kernel
theorem d_Mo_scan_7 : decode (mB m_Mo_scan) 7 = .ok (.putfield 121, 3) := by decide +kernel
theorem d_Mo_scan_10 : decode (mB m_Mo_scan) 10 = .ok (.iload_n 1, 1) := by decide +kernel
theorem d_Mo_scan_11 : decode (mB m_Mo_scan) 11 = .ok (.ifCond .eq 10, 3) := by decide +kernel
theorem d_Mo_scan_14 : decode (mB m_Mo_scan) 14 = .ok (.aload_n 0, 1) := by decide +kernel
theorem d_Mo_scan_15 : decode (mB m_Mo_scan) 15 = .ok (.getfield 159, 3) := by decide +kernel
theorem d_Mo_scan_18 : decode (mB m_Mo_scan) 18 = .ok (.goto 7, 3) := by decide +kernel
theorem d_Mo_scan_21 : decode (mB m_Mo_scan) 21 = .ok (.aload_n 0, 1) := by decide +kernel
theorem d_Mo_scan_22 : decode (mB m_Mo_scan) 22 = .ok (.getfield 118, 3) := by decide +kernel
theorem d_Mo_scan_25 : decode (mB m_Mo_scan) 25 = .ok (.istore_n 2, 1) := by decide +kernel
theorem d_Mo_scan_26 : decode (mB m_Mo_scan) 26 = .ok (.iconst 0, 1) := by decide +kernel
theorem d_Mo_scan_27 : decode (mB m_Mo_scan) 27 = .ok (.istore_n 3, 1) := by decide +kernel
theorem d_Mo_scan_28 : decode (mB m_Mo_scan) 28 = .ok (.iload_n 3, 1) := by decide +kernel
theorem d_Mo_scan_29 : decode (mB m_Mo_scan) 29 = .ok (.iload_n 2, 1) := by decide +kernel
theorem d_Mo_scan_30 : decode (mB m_Mo_scan) 30 = .ok (.if_icmp .ge 37, 3) := by decide +kernel
theorem d_Mo_scan_33 : decode (mB m_Mo_scan) 33 = .ok (.aload_n 0, 1) := by decide +kernel
theorem d_Mo_scan_34 : decode (mB m_Mo_scan) 34 = .ok (.iload_n 1, 1) := by decide +kernel
theorem d_Mo_scan_35 : decode (mB m_Mo_scan) 35 = .ok (.ifCond .eq 12, 3) := by decide +kernel
theorem d_Mo_scan_38 : decode (mB m_Mo_scan) 38 = .ok (.aload_n 0, 1) := by decide +kernel
theorem d_Mo_scan_39 : decode (mB m_Mo_scan) 39 = .ok (.getfield 13, 3) := by decide +kernel
theorem d_Mo_scan_42 : decode (mB m_Mo_scan) 42 = .ok (.iload_n 3, 1) := by decide +kernel
theorem d_Mo_scan_43 : decode (mB m_Mo_scan) 43 = .ok (.iaload, 1) := by decide +kernel
theorem d_Mo_scan_44 : decode (mB m_Mo_scan) 44 = .ok (.goto 9, 3) := by decide +kernel
theorem d_Mo_scan_47 : decode (mB m_Mo_scan) 47 = .ok (.aload_n 0, 1) := by decide +kernel
theorem d_Mo_scan_48 : decode (mB m_Mo_scan) 48 = .ok (.getfield 7, 3) := by decide +kernel
theorem d_Mo_scan_51 : decode (mB m_Mo_scan) 51 = .ok (.iload_n 3, 1) := by decide +kernel
theorem d_Mo_scan_52 : decode (mB m_Mo_scan) 52 = .ok (.iaload, 1) := by decide +kernel
theorem d_Mo_scan_53 : decode (mB m_Mo_scan) 53 = .ok (.invokevirtual 162, 3) := by decide +kernel
theorem d_Mo_scan_56 : decode (mB m_Mo_scan) 56 = .ok (.ifCond .ne 5, 3) := by decide +kernel
theorem d_Mo_scan_59 : decode (mB m_Mo_scan) 59 = .ok (.iload_n 3, 1) := by decide +kernel
theorem d_Mo_scan_60 : decode (mB m_Mo_scan) 60 = .ok (.ireturn, 1) := by decide +kernel
theorem d_Mo_scan_61 : decode (mB m_Mo_scan) 61 = .ok (.iinc 3 1, 3) := by decide +kernel
theorem d_Mo_scan_64 : decode (mB m_Mo_scan) 64 = .ok (.goto (-36), 3) := by decide +kernel
theorem d_Mo_scan_67 : decode (mB m_Mo_scan) 67 = .ok (.aload_n 0, 1) := by decide +kernel
theorem d_Mo_scan_68 : decode (mB m_Mo_scan) 68 = .ok (.invokevirtual 165, 3) := by decide +kernel
theorem d_Mo_scan_71 : decode (mB m_Mo_scan) 71 = .ok (.ifCond .eq 8, 3) := by decide +kernel
theorem d_Mo_scan_74 : decode (mB m_Mo_scan) 74 = .ok (.bipush (-2), 2) := by decide +kernel
theorem d_Mo_scan_76 : decode (mB m_Mo_scan) 76 = .ok (.goto 4, 3) := by decide +kernel
theorem d_Mo_scan_79 : decode (mB m_Mo_scan) 79 = .ok (.iload_n 2, 1) := by decide +kernel
theorem d_Mo_scan_80 : decode (mB m_Mo_scan) 80 = .ok (.ireturn, 1) := by decide +kernel
theorem d_Mo_fault_0 : decode (mB m_Mo_fault) 0 = .ok (.aload_n 0, 1) := by decide +kernel
theorem d_Mo_fault_1 : decode (mB m_Mo_fault) 1 = .ok (.iconst 0, 1) := by decide +kernel
theorem d_Mo_fault_2 : decode (mB m_Mo_fault) 2 = .ok (.putfield 111, 3) := by decide +kernel
theorem d_Mo_fault_5 : decode (mB m_Mo_fault) 5 = .ok (.aload_n 0, 1) := by decide +kernel
theorem d_Mo_fault_6 : decode (mB m_Mo_fault) 6 = .ok (.iconst 0, 1) := by decide +kernel
theorem d_Mo_fault_7 : decode (mB m_Mo_fault) 7 = .ok (.invokevirtual 169, 3) := by decide +kernel
theorem d_Mo_fault_10 : decode (mB m_Mo_fault) 10 = .ok (.ireturn, 1) := by decide +kernel
theorem d_Mo_interval_0 : decode (mB m_Mo_interval) 0 = .ok (.lconst 1, 1) := by decide +kernel
theorem d_Mo_interval_1 : decode (mB m_Mo_interval) 1 = .ok (.lstore_n 2, 1) := by decide +kernel
theorem d_Mo_interval_2 : decode (mB m_Mo_interval) 2 = .ok (.aload_n 0, 1) := by decide +kernel
theorem d_Mo_interval_3 : decode (mB m_Mo_interval) 3 = .ok (.getfield 30, 3) := by decide +kernel
theorem d_Mo_interval_6 : decode (mB m_Mo_interval) 6 = .ok (.iload_n 1, 1) := by decide +kernel
theorem d_Mo_interval_7 : decode (mB m_Mo_interval) 7 = .ok (.iaload, 1) := by decide +kernel
theorem d_Mo_interval_8 : decode (mB m_Mo_interval) 8 = .ok (.bipush 112, 2) := by decide +kernel
theorem d_Mo_interval_10 : decode (mB m_Mo_interval) 10 = .ok (.if_icmp .ne 12, 3) := by decide +kernel
theorem d_Mo_interval_13 : decode (mB m_Mo_interval) 13 = .ok (.aload_n 0, 1) := by decide +kernel
theorem d_Mo_interval_14 : decode (mB m_Mo_interval) 14 = .ok (.getfield 33, 3) := by decide +kernel
theorem d_Mo_interval_17 : decode (mB m_Mo_interval) 17 = .ok (.iload_n 1, 1) := by decide +kernel
theorem d_Mo_interval_18 : decode (mB m_Mo_interval) 18 = .ok (.iaload, 1) := by decide +kernel
theorem d_Mo_interval_19 : decode (mB m_Mo_interval) 19 = .ok (.goto 12, 3) := by decide +kernel
theorem d_Mo_interval_22 : decode (mB m_Mo_interval) 22 = .ok (.bipush 8, 2) := by decide +kernel
theorem d_Mo_interval_24 : decode (mB m_Mo_interval) 24 = .ok (.aload_n 0, 1) := by decide +kernel
theorem d_Mo_interval_25 : decode (mB m_Mo_interval) 25 = .ok (.getfield 33, 3) := by decide +kernel
theorem d_Mo_interval_28 : decode (mB m_Mo_interval) 28 = .ok (.iload_n 1, 1) := by decide +kernel
theorem d_Mo_interval_29 : decode (mB m_Mo_interval) 29 = .ok (.iaload, 1) := by decide +kernel
theorem d_Mo_interval_30 : decode (mB m_Mo_interval) 30 = .ok (.imul, 1) := by decide +kernel
theorem d_Mo_interval_31 : decode (mB m_Mo_interval) 31 = .ok (.istore 4, 2) := by decide +kernel
theorem d_Mo_interval_33 : decode (mB m_Mo_interval) 33 = .ok (.lload_n 2, 1) := by decide +kernel
theorem d_Mo_interval_34 : decode (mB m_Mo_interval) 34 = .ok (.iload 4, 2) := by decide +kernel
theorem d_Mo_interval_36 : decode (mB m_Mo_interval) 36 = .ok (.lshl, 1) := by decide +kernel
theorem d_Mo_interval_37 : decode (mB m_Mo_interval) 37 = .ok (.lstore_n 2, 1) := by decide +kernel
theorem d_Mo_interval_38 : decode (mB m_Mo_interval) 38 = .ok (.aload_n 0, 1) := by decide +kernel
theorem d_Mo_interval_39 : decode (mB m_Mo_interval) 39 = .ok (.getfield 75, 3) := by decide +kernel
theorem d_Mo_interval_42 : decode (mB m_Mo_interval) 42 = .ok (.iload_n 1, 1) := by decide +kernel
theorem d_Mo_interval_43 : decode (mB m_Mo_interval) 43 = .ok (.aload_n 0, 1) := by decide +kernel
theorem d_Mo_interval_44 : decode (mB m_Mo_interval) 44 = .ok (.getfield 30, 3) := by decide +kernel
theorem d_Mo_interval_47 : decode (mB m_Mo_interval) 47 = .ok (.iload_n 1, 1) := by decide +kernel
theorem d_Mo_interval_48 : decode (mB m_Mo_interval) 48 = .ok (.iaload, 1) := by decide +kernel
theorem d_Mo_interval_49 : decode (mB m_Mo_interval) 49 = .ok (.bipush 115, 2) := by decide +kernel
theorem d_Mo_interval_51 : decode (mB m_Mo_interval) 51 = .ok (.if_icmp .ne 12, 3) := by decide +kernel
theorem d_Mo_interval_54 : decode (mB m_Mo_interval) 54 = .ok (.lload_n 2, 1) := by decide +kernel
theorem d_Mo_interval_55 : decode (mB m_Mo_interval) 55 = .ok (.lneg, 1) := by decide +kernel
theorem d_Mo_interval_56 : decode (mB m_Mo_interval) 56 = .ok (.ldc2_w 173, 3) := by decide +kernel
theorem d_Mo_interval_59 : decode (mB m_Mo_interval) 59 = .ok (.ldiv, 1) := by decide +kernel
theorem d_Mo_interval_60 : decode (mB m_Mo_interval) 60 = .ok (.goto 4, 3) := by decide +kernel
theorem d_Mo_interval_63 : decode (mB m_Mo_interval) 63 = .ok (.lconst 0, 1) := by decide +kernel
theorem d_Mo_interval_64 : decode (mB m_Mo_interval) 64 = .ok (.lastore, 1) := by decide +kernel
theorem d_Mo_interval_65 : decode (mB m_Mo_interval) 65 = .ok (.aload_n 0, 1) := by decide +kernel
theorem d_Mo_interval_66 : decode (mB m_Mo_interval) 66 = .ok (.getfield 78, 3) := by decide +kernel
theorem d_Mo_interval_69 : decode (mB m_Mo_interval) 69 = .ok (.iload_n 1, 1) := by decide +kernel
theorem d_Mo_interval_70 : decode (mB m_Mo_interval) 70 = .ok (.aload_n 0, 1) := by decide +kernel
theorem d_Mo_interval_71 : decode (mB m_Mo_interval) 71 = .ok (.getfield 30, 3) := by decide +kernel
theorem d_Mo_interval_74 : decode (mB m_Mo_interval) 74 = .ok (.iload_n 1, 1) := by decide +kernel
theorem d_Mo_interval_75 : decode (mB m_Mo_interval) 75 = .ok (.iaload, 1) := by decide +kernel
theorem d_Mo_interval_76 : decode (mB m_Mo_interval) 76 = .ok (.bipush 115, 2) := by decide +kernel
theorem d_Mo_interval_78 : decode (mB m_Mo_interval) 78 = .ok (.if_icmp .ne 13, 3) := by decide +kernel
theorem d_Mo_interval_81 : decode (mB m_Mo_interval) 81 = .ok (.lload_n 2, 1) := by decide +kernel
theorem d_Mo_interval_82 : decode (mB m_Mo_interval) 82 = .ok (.ldc2_w 173, 3) := by decide +kernel
theorem d_Mo_interval_85 : decode (mB m_Mo_interval) 85 = .ok (.ldiv, 1) := by decide +kernel
theorem d_Mo_interval_86 : decode (mB m_Mo_interval) 86 = .ok (.lconst 1, 1) := by decide +kernel
theorem d_Mo_interval_87 : decode (mB m_Mo_interval) 87 = .ok (.lsub, 1) := by decide +kernel
theorem d_Mo_interval_88 : decode (mB m_Mo_interval) 88 = .ok (.goto 6, 3) := by decide +kernel
theorem d_Mo_interval_91 : decode (mB m_Mo_interval) 91 = .ok (.lload_n 2, 1) := by decide +kernel
theorem d_Mo_interval_92 : decode (mB m_Mo_interval) 92 = .ok (.lconst 1, 1) := by decide +kernel
theorem d_Mo_interval_93 : decode (mB m_Mo_interval) 93 = .ok (.lsub, 1) := by decide +kernel
theorem d_Mo_interval_94 : decode (mB m_Mo_interval) 94 = .ok (.lastore, 1) := by decide +kernel
theorem d_Mo_interval_95 : decode (mB m_Mo_interval) 95 = .ok (.aload_n 0, 1) := by decide +kernel
theorem d_Mo_interval_96 : decode (mB m_Mo_interval) 96 = .ok (.getfield 36, 3) := by decide +kernel
theorem d_Mo_interval_99 : decode (mB m_Mo_interval) 99 = .ok (.iload_n 1, 1) := by decide +kernel
theorem d_Mo_interval_100 : decode (mB m_Mo_interval) 100 = .ok (.iaload, 1) := by decide +kernel
theorem d_Mo_interval_101 : decode (mB m_Mo_interval) 101 = .ok (.bipush 60, 2) := by decide +kernel
theorem d_Mo_interval_103 : decode (mB m_Mo_interval) 103 = .ok (.if_icmp .ne 37, 3) := by decide +kernel
theorem d_Mo_interval_106 : decode (mB m_Mo_interval) 106 = .ok (.aload_n 0, 1) := by decide +kernel
theorem d_Mo_interval_107 : decode (mB m_Mo_interval) 107 = .ok (.getfield 39, 3) := by decide +kernel
theorem d_Mo_interval_110 : decode (mB m_Mo_interval) 110 = .ok (.iload_n 1, 1) := by decide +kernel
theorem d_Mo_interval_111 : decode (mB m_Mo_interval) 111 = .ok (.iaload, 1) := by decide +kernel
theorem d_Mo_interval_112 : decode (mB m_Mo_interval) 112 = .ok (.iconst 1, 1) := by decide +kernel
theorem d_Mo_interval_113 : decode (mB m_Mo_interval) 113 = .ok (.isub, 1) := by decide +kernel
theorem d_Mo_interval_114 : decode (mB m_Mo_interval) 114 = .ok (.i2l, 1) := by decide +kernel
theorem d_Mo_interval_115 : decode (mB m_Mo_interval) 115 = .ok (.aload_n 0, 1) := by decide +kernel
theorem d_Mo_interval_116 : decode (mB m_Mo_interval) 116 = .ok (.getfield 78, 3) := by decide +kernel
theorem d_Mo_interval_119 : decode (mB m_Mo_interval) 119 = .ok (.iload_n 1, 1) := by decide +kernel
theorem d_Mo_interval_120 : decode (mB m_Mo_interval) 120 = .ok (.laload, 1) := by decide +kernel
theorem d_Mo_interval_121 : decode (mB m_Mo_interval) 121 = .ok (.lcmp, 1) := by decide +kernel
theorem d_Mo_interval_122 : decode (mB m_Mo_interval) 122 = .ok (.ifCond .ge 18, 3) := by decide +kernel
theorem d_Mo_interval_125 : decode (mB m_Mo_interval) 125 = .ok (.aload_n 0, 1) := by decide +kernel
theorem d_Mo_interval_126 : decode (mB m_Mo_interval) 126 = .ok (.getfield 78, 3) := by decide +kernel
theorem d_Mo_interval_129 : decode (mB m_Mo_interval) 129 = .ok (.iload_n 1, 1) := by decide +kernel
theorem d_Mo_interval_130 : decode (mB m_Mo_interval) 130 = .ok (.aload_n 0, 1) := by decide +kernel
theorem d_Mo_interval_131 : decode (mB m_Mo_interval) 131 = .ok (.getfield 39, 3) := by decide +kernel
theorem d_Mo_interval_134 : decode (mB m_Mo_interval) 134 = .ok (.iload_n 1, 1) := by decide +kernel
theorem d_Mo_interval_135 : decode (mB m_Mo_interval) 135 = .ok (.iaload, 1) := by decide +kernel
theorem d_Mo_interval_136 : decode (mB m_Mo_interval) 136 = .ok (.iconst 1, 1) := by decide +kernel
theorem d_Mo_interval_137 : decode (mB m_Mo_interval) 137 = .ok (.isub, 1) := by decide +kernel
theorem d_Mo_interval_138 : decode (mB m_Mo_interval) 138 = .ok (.i2l, 1) := by decide +kernel
theorem d_Mo_interval_139 : decode (mB m_Mo_interval) 139 = .ok (.lastore, 1) := by decide +kernel
theorem d_Mo_interval_140 : decode (mB m_Mo_interval) 140 = .ok (.aload_n 0, 1) := by decide +kernel
theorem d_Mo_interval_141 : decode (mB m_Mo_interval) 141 = .ok (.getfield 36, 3) := by decide +kernel
theorem d_Mo_interval_144 : decode (mB m_Mo_interval) 144 = .ok (.iload_n 1, 1) := by decide +kernel
theorem d_Mo_interval_145 : decode (mB m_Mo_interval) 145 = .ok (.iaload, 1) := by decide +kernel
theorem d_Mo_interval_146 : decode (mB m_Mo_interval) 146 = .ok (.bipush 62, 2) := by decide +kernel
theorem d_Mo_interval_148 : decode (mB m_Mo_interval) 148 = .ok (.if_icmp .ne 37, 3) := by decide +kernel
theorem d_Mo_interval_151 : decode (mB m_Mo_interval) 151 = .ok (.aload_n 0, 1) := by decide +kernel
theorem d_Mo_interval_152 : decode (mB m_Mo_interval) 152 = .ok (.getfield 39, 3) := by decide +kernel
theorem d_Mo_interval_155 : decode (mB m_Mo_interval) 155 = .ok (.iload_n 1, 1) := by decide +kernel
theorem d_Mo_interval_156 : decode (mB m_Mo_interval) 156 = .ok (.iaload, 1) := by decide +kernel
theorem d_Mo_interval_157 : decode (mB m_Mo_interval) 157 = .ok (.iconst 1, 1) := by decide +kernel
theorem d_Mo_interval_158 : decode (mB m_Mo_interval) 158 = .ok (.iadd, 1) := by decide +kernel
theorem d_Mo_interval_159 : decode (mB m_Mo_interval) 159 = .ok (.i2l, 1) := by decide +kernel
theorem d_Mo_interval_160 : decode (mB m_Mo_interval) 160 = .ok (.aload_n 0, 1) := by decide +kernel
theorem d_Mo_interval_161 : decode (mB m_Mo_interval) 161 = .ok (.getfield 75, 3) := by decide +kernel
theorem d_Mo_interval_164 : decode (mB m_Mo_interval) 164 = .ok (.iload_n 1, 1) := by decide +kernel
theorem d_Mo_interval_165 : decode (mB m_Mo_interval) 165 = .ok (.laload, 1) := by decide +kernel
theorem d_Mo_interval_166 : decode (mB m_Mo_interval) 166 = .ok (.lcmp, 1) := by decide +kernel
theorem d_Mo_interval_167 : decode (mB m_Mo_interval) 167 = .ok (.ifCond .le 18, 3) := by decide +kernel
theorem d_Mo_interval_170 : decode (mB m_Mo_interval) 170 = .ok (.aload_n 0, 1) := by decide +kernel
theorem d_Mo_interval_171 : decode (mB m_Mo_interval) 171 = .ok (.getfield 75, 3) := by decide +kernel
theorem d_Mo_interval_174 : decode (mB m_Mo_interval) 174 = .ok (.iload_n 1, 1) := by decide +kernel
theorem d_Mo_interval_175 : decode (mB m_Mo_interval) 175 = .ok (.aload_n 0, 1) := by decide +kernel
theorem d_Mo_interval_176 : decode (mB m_Mo_interval) 176 = .ok (.getfield 39, 3) := by decide +kernel
theorem d_Mo_interval_179 : decode (mB m_Mo_interval) 179 = .ok (.iload_n 1, 1) := by decide +kernel
theorem d_Mo_interval_180 : decode (mB m_Mo_interval) 180 = .ok (.iaload, 1) := by decide +kernel
theorem d_Mo_interval_181 : decode (mB m_Mo_interval) 181 = .ok (.iconst 1, 1) := by decide +kernel
theorem d_Mo_interval_182 : decode (mB m_Mo_interval) 182 = .ok (.iadd, 1) := by decide +kernel
theorem d_Mo_interval_183 : decode (mB m_Mo_interval) 183 = .ok (.i2l, 1) := by decide +kernel
theorem d_Mo_interval_184 : decode (mB m_Mo_interval) 184 = .ok (.lastore, 1) := by decide +kernel
theorem d_Mo_interval_185 : decode (mB m_Mo_interval) 185 = .ok (.aload_n 0, 1) := by decide +kernel
theorem d_Mo_interval_186 : decode (mB m_Mo_interval) 186 = .ok (.getfield 36, 3) := by decide +kernel
theorem d_Mo_interval_189 : decode (mB m_Mo_interval) 189 = .ok (.iload_n 1, 1) := by decide +kernel
theorem d_Mo_interval_190 : decode (mB m_Mo_interval) 190 = .ok (.iaload, 1) := by decide +kernel
theorem d_Mo_interval_191 : decode (mB m_Mo_interval) 191 = .ok (.bipush 61, 2) := by decide +kernel
theorem d_Mo_interval_193 : decode (mB m_Mo_interval) 193 = .ok (.if_icmp .ne 63, 3) := by decide +kernel
theorem d_Mo_interval_196 : decode (mB m_Mo_interval) 196 = .ok (.aload_n 0, 1) := by decide +kernel
theorem d_Mo_interval_197 : decode (mB m_Mo_interval) 197 = .ok (.getfield 39, 3) := by decide +kernel
theorem d_Mo_interval_200 : decode (mB m_Mo_interval) 200 = .ok (.iload_n 1, 1) := by decide +kernel
theorem d_Mo_interval_201 : decode (mB m_Mo_interval) 201 = .ok (.iaload, 1) := by decide +kernel
theorem d_Mo_interval_202 : decode (mB m_Mo_interval) 202 = .ok (.i2l, 1) := by decide +kernel
theorem d_Mo_interval_203 : decode (mB m_Mo_interval) 203 = .ok (.aload_n 0, 1) := by decide +kernel
theorem d_Mo_interval_204 : decode (mB m_Mo_interval) 204 = .ok (.getfield 75, 3) := by decide +kernel
theorem d_Mo_interval_207 : decode (mB m_Mo_interval) 207 = .ok (.iload_n 1, 1) := by decide +kernel
theorem d_Mo_interval_208 : decode (mB m_Mo_interval) 208 = .ok (.laload, 1) := by decide +kernel
theorem d_Mo_interval_209 : decode (mB m_Mo_interval) 209 = .ok (.lcmp, 1) := by decide +kernel
theorem d_Mo_interval_210 : decode (mB m_Mo_interval) 210 = .ok (.ifCond .le 16, 3) := by decide +kernel
theorem d_Mo_interval_213 : decode (mB m_Mo_interval) 213 = .ok (.aload_n 0, 1) := by decide +kernel
theorem d_Mo_interval_214 : decode (mB m_Mo_interval) 214 = .ok (.getfield 75, 3) := by decide +kernel
theorem d_Mo_interval_217 : decode (mB m_Mo_interval) 217 = .ok (.iload_n 1, 1) := by decide +kernel
theorem d_Mo_interval_218 : decode (mB m_Mo_interval) 218 = .ok (.aload_n 0, 1) := by decide +kernel
theorem d_Mo_interval_219 : decode (mB m_Mo_interval) 219 = .ok (.getfield 39, 3) := by decide +kernel
theorem d_Mo_interval_222 : decode (mB m_Mo_interval) 222 = .ok (.iload_n 1, 1) := by decide +kernel
theorem d_Mo_interval_223 : decode (mB m_Mo_interval) 223 = .ok (.iaload, 1) := by decide +kernel
theorem d_Mo_interval_224 : decode (mB m_Mo_interval) 224 = .ok (.i2l, 1) := by decide +kernel
theorem d_Mo_interval_225 : decode (mB m_Mo_interval) 225 = .ok (.lastore, 1) := by decide +kernel
theorem d_Mo_interval_226 : decode (mB m_Mo_interval) 226 = .ok (.aload_n 0, 1) := by decide +kernel
theorem d_Mo_interval_227 : decode (mB m_Mo_interval) 227 = .ok (.getfield 39, 3) := by decide +kernel
theorem d_Mo_interval_230 : decode (mB m_Mo_interval) 230 = .ok (.iload_n 1, 1) := by decide +kernel
theorem d_Mo_interval_231 : decode (mB m_Mo_interval) 231 = .ok (.iaload, 1) := by decide +kernel
theorem d_Mo_interval_232 : decode (mB m_Mo_interval) 232 = .ok (.i2l, 1) := by decide +kernel
theorem d_Mo_interval_233 : decode (mB m_Mo_interval) 233 = .ok (.aload_n 0, 1) := by decide +kernel
theorem d_Mo_interval_234 : decode (mB m_Mo_interval) 234 = .ok (.getfield 78, 3) := by decide +kernel
theorem d_Mo_interval_237 : decode (mB m_Mo_interval) 237 = .ok (.iload_n 1, 1) := by decide +kernel
theorem d_Mo_interval_238 : decode (mB m_Mo_interval) 238 = .ok (.laload, 1) := by decide +kernel
theorem d_Mo_interval_239 : decode (mB m_Mo_interval) 239 = .ok (.lcmp, 1) := by decide +kernel
theorem d_Mo_interval_240 : decode (mB m_Mo_interval) 240 = .ok (.ifCond .ge 16, 3) := by decide +kernel
theorem d_Mo_interval_243 : decode (mB m_Mo_interval) 243 = .ok (.aload_n 0, 1) := by decide +kernel
theorem d_Mo_interval_244 : decode (mB m_Mo_interval) 244 = .ok (.getfield 78, 3) := by decide +kernel
theorem d_Mo_interval_247 : decode (mB m_Mo_interval) 247 = .ok (.iload_n 1, 1) := by decide +kernel
theorem d_Mo_interval_248 : decode (mB m_Mo_interval) 248 = .ok (.aload_n 0, 1) := by decide +kernel
theorem d_Mo_interval_249 : decode (mB m_Mo_interval) 249 = .ok (.getfield 39, 3) := by decide +kernel
theorem d_Mo_interval_252 : decode (mB m_Mo_interval) 252 = .ok (.iload_n 1, 1) := by decide +kernel
theorem d_Mo_interval_253 : decode (mB m_Mo_interval) 253 = .ok (.iaload, 1) := by decide +kernel
theorem d_Mo_interval_254 : decode (mB m_Mo_interval) 254 = .ok (.i2l, 1) := by decide +kernel
theorem d_Mo_interval_255 : decode (mB m_Mo_interval) 255 = .ok (.lastore, 1) := by decide +kernel
theorem d_Mo_interval_256 : decode (mB m_Mo_interval) 256 = .ok (.return_, 1) := by decide +kernel
theorem d_Mo_find_0 : decode (mB m_Mo_find) 0 = .ok (.iload_n 1, 1) := by decide +kernel
theorem d_Mo_find_1 : decode (mB m_Mo_find) 1 = .ok (.istore_n 2, 1) := by decide +kernel
theorem d_Mo_find_2 : decode (mB m_Mo_find) 2 = .ok (.iload_n 2, 1) := by decide +kernel
theorem d_Mo_find_3 : decode (mB m_Mo_find) 3 = .ok (.ifCond .lt 88, 3) := by decide +kernel
theorem d_Mo_find_6 : decode (mB m_Mo_find) 6 = .ok (.aload_n 0, 1) := by decide +kernel
theorem d_Mo_find_7 : decode (mB m_Mo_find) 7 = .ok (.getfield 51, 3) := by decide +kernel
theorem d_Mo_find_10 : decode (mB m_Mo_find) 10 = .ok (.iload_n 2, 1) := by decide +kernel
theorem d_Mo_find_11 : decode (mB m_Mo_find) 11 = .ok (.iaload, 1) := by decide +kernel
theorem d_Mo_find_12 : decode (mB m_Mo_find) 12 = .ok (.istore_n 3, 1) := by decide +kernel
theorem d_Mo_find_13 : decode (mB m_Mo_find) 13 = .ok (.iload_n 3, 1) := by decide +kernel
theorem d_Mo_find_14 : decode (mB m_Mo_find) 14 = .ok (.ifCond .lt 72, 3) := by decide +kernel
theorem d_Mo_find_17 : decode (mB m_Mo_find) 17 = .ok (.aload_n 0, 1) := by decide +kernel
theorem d_Mo_find_18 : decode (mB m_Mo_find) 18 = .ok (.getfield 30, 3) := by decide +kernel
theorem d_Mo_find_21 : decode (mB m_Mo_find) 21 = .ok (.iload_n 3, 1) := by decide +kernel
theorem d_Mo_find_22 : decode (mB m_Mo_find) 22 = .ok (.iaload, 1) := by decide +kernel
theorem d_Mo_find_23 : decode (mB m_Mo_find) 23 = .ok (.bipush 123, 2) := by decide +kernel
theorem d_Mo_find_25 : decode (mB m_Mo_find) 25 = .ok (.if_icmp .ne 61, 3) := by decide +kernel
theorem d_Mo_find_28 : decode (mB m_Mo_find) 28 = .ok (.aload_n 0, 1) := by decide +kernel
theorem d_Mo_find_29 : decode (mB m_Mo_find) 29 = .ok (.getfield 60, 3) := by decide +kernel
theorem d_Mo_find_32 : decode (mB m_Mo_find) 32 = .ok (.iload_n 2, 1) := by decide +kernel
theorem d_Mo_find_33 : decode (mB m_Mo_find) 33 = .ok (.iaload, 1) := by decide +kernel
theorem d_Mo_find_34 : decode (mB m_Mo_find) 34 = .ok (.istore 4, 2) := by decide +kernel
theorem d_Mo_find_36 : decode (mB m_Mo_find) 36 = .ok (.iload 4, 2) := by decide +kernel
theorem d_Mo_find_38 : decode (mB m_Mo_find) 38 = .ok (.ifCond .lt 48, 3) := by decide +kernel
theorem d_Mo_find_41 : decode (mB m_Mo_find) 41 = .ok (.aload_n 0, 1) := by decide +kernel
theorem d_Mo_find_42 : decode (mB m_Mo_find) 42 = .ok (.getfield 45, 3) := by decide +kernel
theorem d_Mo_find_45 : decode (mB m_Mo_find) 45 = .ok (.iload 4, 2) := by decide +kernel
theorem d_Mo_find_47 : decode (mB m_Mo_find) 47 = .ok (.iaload, 1) := by decide +kernel
theorem d_Mo_find_48 : decode (mB m_Mo_find) 48 = .ok (.aload_n 0, 1) := by decide +kernel
theorem d_Mo_find_49 : decode (mB m_Mo_find) 49 = .ok (.getfield 42, 3) := by decide +kernel
theorem d_Mo_find_52 : decode (mB m_Mo_find) 52 = .ok (.iload_n 1, 1) := by decide +kernel
theorem d_Mo_find_53 : decode (mB m_Mo_find) 53 = .ok (.iaload, 1) := by decide +kernel
theorem d_Mo_find_54 : decode (mB m_Mo_find) 54 = .ok (.if_icmp .ne 20, 3) := by decide +kernel
theorem d_Mo_find_57 : decode (mB m_Mo_find) 57 = .ok (.aload_n 0, 1) := by decide +kernel
theorem d_Mo_find_58 : decode (mB m_Mo_find) 58 = .ok (.aload_n 0, 1) := by decide +kernel
theorem d_Mo_find_59 : decode (mB m_Mo_find) 59 = .ok (.getfield 30, 3) := by decide +kernel
theorem d_Mo_find_62 : decode (mB m_Mo_find) 62 = .ok (.iload 4, 2) := by decide +kernel
theorem d_Mo_find_64 : decode (mB m_Mo_find) 64 = .ok (.iaload, 1) := by decide +kernel
theorem d_Mo_find_65 : decode (mB m_Mo_find) 65 = .ok (.invokevirtual 124, 3) := by decide +kernel
theorem d_Mo_find_68 : decode (mB m_Mo_find) 68 = .ok (.ifCond .eq 6, 3) := by decide +kernel
theorem d_Mo_find_71 : decode (mB m_Mo_find) 71 = .ok (.iload 4, 2) := by decide +kernel
theorem d_Mo_find_73 : decode (mB m_Mo_find) 73 = .ok (.ireturn, 1) := by decide +kernel
theorem d_Mo_find_74 : decode (mB m_Mo_find) 74 = .ok (.aload_n 0, 1) := by decide +kernel
theorem d_Mo_find_75 : decode (mB m_Mo_find) 75 = .ok (.getfield 60, 3) := by decide +kernel
theorem d_Mo_find_78 : decode (mB m_Mo_find) 78 = .ok (.iload 4, 2) := by decide +kernel
theorem d_Mo_find_80 : decode (mB m_Mo_find) 80 = .ok (.iaload, 1) := by decide +kernel
theorem d_Mo_find_81 : decode (mB m_Mo_find) 81 = .ok (.istore 4, 2) := by decide +kernel
theorem d_Mo_find_83 : decode (mB m_Mo_find) 83 = .ok (.goto (-47), 3) := by decide +kernel
theorem d_Mo_find_86 : decode (mB m_Mo_find) 86 = .ok (.iload_n 3, 1) := by decide +kernel
theorem d_Mo_find_87 : decode (mB m_Mo_find) 87 = .ok (.istore_n 2, 1) := by decide +kernel
theorem d_Mo_find_88 : decode (mB m_Mo_find) 88 = .ok (.goto (-86), 3) := by decide +kernel
theorem d_Mo_find_91 : decode (mB m_Mo_find) 91 = .ok (.iconst (-1), 1) := by decide +kernel
theorem d_Mo_find_92 : decode (mB m_Mo_find) 92 = .ok (.ireturn, 1) := by decide +kernel
