theorem d_Pa_init_0 : decode (mB m_Pa_init) 0 = .ok (.aload_n 0, 1) := by decide +kernel
theorem d_Pa_init_1 : decode (mB m_Pa_init) 1 = .ok (.invokespecial 3, 3) := by decide +kernel
theorem d_Pa_init_4 : decode (mB m_Pa_init) 4 = .ok (.aload_n 0, 1) := by decide +kernel
theorem d_Pa_init_5 : decode (mB m_Pa_init) 5 = .ok (.aload_n 1, 1) := by decide +kernel
theorem d_Pa_init_6 : decode (mB m_Pa_init) 6 = .ok (.putfield 9, 3) := by decide +kernel
theorem d_Pa_init_9 : decode (mB m_Pa_init) 9 = .ok (.aload_n 0, 1) := by decide +kernel
theorem d_Pa_init_10 : decode (mB m_Pa_init) 10 = .ok (.aload_n 2, 1) := by decide +kernel
theorem d_Pa_init_11 : decode (mB m_Pa_init) 11 = .ok (.putfield 15, 3) := by decide +kernel
theorem d_Pa_init_14 : decode (mB m_Pa_init) 14 = .ok (.aload_n 0, 1) := by decide +kernel
theorem d_Pa_init_15 : decode (mB m_Pa_init) 15 = .ok (.iconst 0, 1) := by decide +kernel
theorem d_Pa_init_16 : decode (mB m_Pa_init) 16 = .ok (.putfield 19, 3) := by decide +kernel
theorem d_Pa_init_19 : decode (mB m_Pa_init) 19 = .ok (.return_, 1) := by decide +kernel
theorem d_Pa_parse_0 : decode (mB m_Pa_parse) 0 = .ok (.aload_n 0, 1) := by decide +kernel
theorem d_Pa_parse_1 : decode (mB m_Pa_parse) 1 = .ok (.getfield 15, 3) := by decide +kernel
theorem d_Pa_parse_4 : decode (mB m_Pa_parse) 4 = .ok (.invokevirtual 23, 3) := by decide +kernel
theorem d_Pa_parse_7 : decode (mB m_Pa_parse) 7 = .ok (.aload_n 0, 1) := by decide +kernel
theorem d_Pa_parse_8 : decode (mB m_Pa_parse) 8 = .ok (.aconst_null, 1) := by decide +kernel
theorem d_Pa_parse_9 : decode (mB m_Pa_parse) 9 = .ok (.iconst (-1), 1) := by decide +kernel
theorem d_Pa_parse_10 : decode (mB m_Pa_parse) 10 = .ok (.iconst 1, 1) := by decide +kernel
theorem d_Pa_parse_11 : decode (mB m_Pa_parse) 11 = .ok (.invokevirtual 28, 3) := by decide +kernel
theorem d_Pa_parse_14 : decode (mB m_Pa_parse) 14 = .ok (.ifnull 21, 3) := by decide +kernel
theorem d_Pa_parse_17 : decode (mB m_Pa_parse) 17 = .ok (.aload_n 0, 1) := by decide +kernel
theorem d_Pa_parse_18 : decode (mB m_Pa_parse) 18 = .ok (.getfield 19, 3) := by decide +kernel
theorem d_Pa_parse_21 : decode (mB m_Pa_parse) 21 = .ok (.aload_n 0, 1) := by decide +kernel
theorem d_Pa_parse_22 : decode (mB m_Pa_parse) 22 = .ok (.getfield 9, 3) := by decide +kernel
theorem d_Pa_parse_25 : decode (mB m_Pa_parse) 25 = .ok (.getfield 32, 3) := by decide +kernel
theorem d_Pa_parse_28 : decode (mB m_Pa_parse) 28 = .ok (.if_icmp .ne 7, 3) := by decide +kernel
theorem d_Pa_parse_31 : decode (mB m_Pa_parse) 31 = .ok (.iconst 1, 1) := by decide +kernel
theorem d_Pa_parse_32 : decode (mB m_Pa_parse) 32 = .ok (.goto 4, 3) := by decide +kernel
theorem d_Pa_parse_35 : decode (mB m_Pa_parse) 35 = .ok (.iconst 0, 1) := by decide +kernel
theorem d_Pa_parse_36 : decode (mB m_Pa_parse) 36 = .ok (.istore_n 1, 1) := by decide +kernel
theorem d_Pa_parse_37 : decode (mB m_Pa_parse) 37 = .ok (.iload_n 1, 1) := by decide +kernel
theorem d_Pa_parse_38 : decode (mB m_Pa_parse) 38 = .ok (.ifCond .eq 8, 3) := by decide +kernel
theorem d_Pa_parse_41 : decode (mB m_Pa_parse) 41 = .ok (.bipush (-2), 2) := by decide +kernel
theorem d_Pa_parse_43 : decode (mB m_Pa_parse) 43 = .ok (.goto 7, 3) := by decide +kernel
theorem d_Pa_parse_46 : decode (mB m_Pa_parse) 46 = .ok (.aload_n 0, 1) := by decide +kernel
theorem d_Pa_parse_47 : decode (mB m_Pa_parse) 47 = .ok (.getfield 19, 3) := by decide +kernel
theorem d_Pa_parse_50 : decode (mB m_Pa_parse) 50 = .ok (.ireturn, 1) := by decide +kernel
theorem d_Pa_passType_0 : decode (mB m_Pa_passType) 0 = .ok (.aload_n 0, 1) := by decide +kernel
theorem d_Pa_passType_1 : decode (mB m_Pa_passType) 1 = .ok (.getfield 9, 3) := by decide +kernel
theorem d_Pa_passType_4 : decode (mB m_Pa_passType) 4 = .ok (.aload_n 0, 1) := by decide +kernel
theorem d_Pa_passType_5 : decode (mB m_Pa_passType) 5 = .ok (.getfield 19, 3) := by decide +kernel
theorem d_Pa_passType_8 : decode (mB m_Pa_passType) 8 = .ok (.invokevirtual 37, 3) := by decide +kernel
theorem d_Pa_passType_11 : decode (mB m_Pa_passType) 11 = .ok (.istore 4, 2) := by decide +kernel
theorem d_Pa_passType_13 : decode (mB m_Pa_passType) 13 = .ok (.iload_n 3, 1) := by decide +kernel
theorem d_Pa_passType_14 : decode (mB m_Pa_passType) 14 = .ok (.iconst 5, 1) := by decide +kernel
theorem d_Pa_passType_15 : decode (mB m_Pa_passType) 15 = .ok (.if_icmp .gt 12, 3) := by decide +kernel
theorem d_Pa_passType_18 : decode (mB m_Pa_passType) 18 = .ok (.iload 4, 2) := by decide +kernel
theorem d_Pa_passType_20 : decode (mB m_Pa_passType) 20 = .ok (.iload_n 3, 1) := by decide +kernel
theorem d_Pa_passType_21 : decode (mB m_Pa_passType) 21 = .ok (.invokestatic 41, 3) := by decide +kernel
theorem d_Pa_passType_24 : decode (mB m_Pa_passType) 24 = .ok (.ifCond .ne 5, 3) := by decide +kernel
theorem d_Pa_passType_27 : decode (mB m_Pa_passType) 27 = .ok (.aconst_null, 1) := by decide +kernel
theorem d_Pa_passType_28 : decode (mB m_Pa_passType) 28 = .ok (.areturn, 1) := by decide +kernel
theorem d_Pa_passType_29 : decode (mB m_Pa_passType) 29 = .ok (.aload_n 0, 1) := by decide +kernel
theorem d_Pa_passType_30 : decode (mB m_Pa_passType) 30 = .ok (.getfield 15, 3) := by decide +kernel
theorem d_Pa_passType_33 : decode (mB m_Pa_passType) 33 = .ok (.iload 4, 2) := by decide +kernel
theorem d_Pa_passType_35 : decode (mB m_Pa_passType) 35 = .ok (.aload_n 1, 1) := by decide +kernel
theorem d_Pa_passType_36 : decode (mB m_Pa_passType) 36 = .ok (.iload_n 2, 1) := by decide +kernel
theorem d_Pa_passType_37 : decode (mB m_Pa_passType) 37 = .ok (.invokevirtual 45, 3) := by decide +kernel
theorem d_Pa_passType_40 : decode (mB m_Pa_passType) 40 = .ok (.astore 5, 2) := by decide +kernel
theorem d_Pa_passType_42 : decode (mB m_Pa_passType) 42 = .ok (.aload 5, 2) := by decide +kernel
theorem d_Pa_passType_44 : decode (mB m_Pa_passType) 44 = .ok (.ifnonnull 5, 3) := by decide +kernel
theorem d_Pa_passType_47 : decode (mB m_Pa_passType) 47 = .ok (.aconst_null, 1) := by decide +kernel
theorem d_Pa_passType_48 : decode (mB m_Pa_passType) 48 = .ok (.areturn, 1) := by decide +kernel
theorem d_Pa_passType_49 : decode (mB m_Pa_passType) 49 = .ok (.aload_n 0, 1) := by decide +kernel
theorem d_Pa_passType_50 : decode (mB m_Pa_passType) 50 = .ok (.dup, 1) := by decide +kernel
theorem d_Pa_passType_51 : decode (mB m_Pa_passType) 51 = .ok (.getfield 19, 3) := by decide +kernel
theorem d_Pa_passType_54 : decode (mB m_Pa_passType) 54 = .ok (.iconst 1, 1) := by decide +kernel
theorem d_Pa_passType_55 : decode (mB m_Pa_passType) 55 = .ok (.iadd, 1) := by decide +kernel
theorem d_Pa_passType_56 : decode (mB m_Pa_passType) 56 = .ok (.putfield 19, 3) := by decide +kernel
theorem d_Pa_passType_59 : decode (mB m_Pa_passType) 59 = .ok (.aload_n 0, 1) := by decide +kernel
theorem d_Pa_passType_60 : decode (mB m_Pa_passType) 60 = .ok (.aload 5, 2) := by decide +kernel
theorem d_Pa_passType_62 : decode (mB m_Pa_passType) 62 = .ok (.iload_n 3, 1) := by decide +kernel
theorem d_Pa_passType_63 : decode (mB m_Pa_passType) 63 = .ok (.invokevirtual 49, 3) := by decide +kernel
theorem d_Pa_passType_66 : decode (mB m_Pa_passType) 66 = .ok (.ifCond .eq 8, 3) := by decide +kernel
theorem d_Pa_passType_69 : decode (mB m_Pa_passType) 69 = .ok (.aload 5, 2) := by decide +kernel
theorem d_Pa_passType_71 : decode (mB m_Pa_passType) 71 = .ok (.goto 4, 3) := by decide +kernel
theorem d_Pa_passType_74 : decode (mB m_Pa_passType) 74 = .ok (.aconst_null, 1) := by decide +kernel
theorem d_Pa_passType_75 : decode (mB m_Pa_passType) 75 = .ok (.areturn, 1) := by decide +kernel
theorem d_Pa_beginsType_0 : decode (mB m_Pa_beginsType) 0 = .ok (.iload_n 0, 1) := by decide +kernel
theorem d_Pa_beginsType_1 : decode (mB m_Pa_beginsType) 1 = .ok (.lookupswitch 120 #[(42, 109), (47, 109), (63, 109), (100, 107), (102, 107), (112, 107), (114, 107), (115, 107), (117, 107), (118, 107), (122, 107), (123, 107)], 107) := by decide +kernel
theorem d_Pa_beginsType_108 : decode (mB m_Pa_beginsType) 108 = .ok (.iconst 1, 1) := by decide +kernel
theorem d_Pa_beginsType_109 : decode (mB m_Pa_beginsType) 109 = .ok (.ireturn, 1) := by decide +kernel
theorem d_Pa_beginsType_110 : decode (mB m_Pa_beginsType) 110 = .ok (.iload_n 1, 1) := by decide +kernel
theorem d_Pa_beginsType_111 : decode (mB m_Pa_beginsType) 111 = .ok (.iconst 5, 1) := by decide +kernel
theorem d_Pa_beginsType_112 : decode (mB m_Pa_beginsType) 112 = .ok (.if_icmp .ge 7, 3) := by decide +kernel
theorem d_Pa_beginsType_115 : decode (mB m_Pa_beginsType) 115 = .ok (.iconst 1, 1) := by decide +kernel
theorem d_Pa_beginsType_116 : decode (mB m_Pa_beginsType) 116 = .ok (.goto 4, 3) := by decide +kernel
theorem d_Pa_beginsType_119 : decode (mB m_Pa_beginsType) 119 = .ok (.iconst 0, 1) := by decide +kernel
theorem d_Pa_beginsType_120 : decode (mB m_Pa_beginsType) 120 = .ok (.ireturn, 1) := by decide +kernel
theorem d_Pa_beginsType_121 : decode (mB m_Pa_beginsType) 121 = .ok (.iconst 0, 1) := by decide +kernel
theorem d_Pa_beginsType_122 : decode (mB m_Pa_beginsType) 122 = .ok (.ireturn, 1) := by decide +kernel
theorem d_Pa_passTail_0 : decode (mB m_Pa_passTail) 0 = .ok (.aload_n 1, 1) := by decide +kernel
theorem d_Pa_passTail_1 : decode (mB m_Pa_passTail) 1 = .ok (.getfield 53, 3) := by decide +kernel
theorem d_Pa_passTail_4 : decode (mB m_Pa_passTail) 4 = .ok (.lookupswitch 191 #[(42, 91), (47, 91), (63, 118), (100, 181), (102, 174), (112, 150), (114, 189), (122, 189), (123, 84)], 84) := by decide +kernel
theorem d_Pa_passTail_88 : decode (mB m_Pa_passTail) 88 = .ok (.aload_n 0, 1) := by decide +kernel
theorem d_Pa_passTail_89 : decode (mB m_Pa_passTail) 89 = .ok (.aload_n 1, 1) := by decide +kernel
theorem d_Pa_passTail_90 : decode (mB m_Pa_passTail) 90 = .ok (.iload_n 2, 1) := by decide +kernel
theorem d_Pa_passTail_91 : decode (mB m_Pa_passTail) 91 = .ok (.invokevirtual 58, 3) := by decide +kernel
theorem d_Pa_passTail_94 : decode (mB m_Pa_passTail) 94 = .ok (.ireturn, 1) := by decide +kernel
theorem d_Pa_passTail_95 : decode (mB m_Pa_passTail) 95 = .ok (.aload_n 0, 1) := by decide +kernel
theorem d_Pa_passTail_96 : decode (mB m_Pa_passTail) 96 = .ok (.aload_n 1, 1) := by decide +kernel
theorem d_Pa_passTail_97 : decode (mB m_Pa_passTail) 97 = .ok (.invokevirtual 61, 3) := by decide +kernel
theorem d_Pa_passTail_100 : decode (mB m_Pa_passTail) 100 = .ok (.ifCond .eq 20, 3) := by decide +kernel
theorem d_Pa_passTail_103 : decode (mB m_Pa_passTail) 103 = .ok (.aload_n 0, 1) := by decide +kernel
theorem d_Pa_passTail_104 : decode (mB m_Pa_passTail) 104 = .ok (.aload_n 1, 1) := by decide +kernel
theorem d_Pa_passTail_105 : decode (mB m_Pa_passTail) 105 = .ok (.aload_n 1, 1) := by decide +kernel
theorem d_Pa_passTail_106 : decode (mB m_Pa_passTail) 106 = .ok (.getfield 65, 3) := by decide +kernel
theorem d_Pa_passTail_109 : decode (mB m_Pa_passTail) 109 = .ok (.iload_n 2, 1) := by decide +kernel
theorem d_Pa_passTail_110 : decode (mB m_Pa_passTail) 110 = .ok (.invokevirtual 68, 3) := by decide +kernel
theorem d_Pa_passTail_113 : decode (mB m_Pa_passTail) 113 = .ok (.ifnull 7, 3) := by decide +kernel
theorem d_Pa_passTail_116 : decode (mB m_Pa_passTail) 116 = .ok (.iconst 1, 1) := by decide +kernel
theorem d_Pa_passTail_117 : decode (mB m_Pa_passTail) 117 = .ok (.goto 4, 3) := by decide +kernel
theorem d_Pa_passTail_120 : decode (mB m_Pa_passTail) 120 = .ok (.iconst 0, 1) := by decide +kernel
theorem d_Pa_passTail_121 : decode (mB m_Pa_passTail) 121 = .ok (.ireturn, 1) := by decide +kernel
theorem d_Pa_passTail_122 : decode (mB m_Pa_passTail) 122 = .ok (.aload_n 0, 1) := by decide +kernel
theorem d_Pa_passTail_123 : decode (mB m_Pa_passTail) 123 = .ok (.aload_n 1, 1) := by decide +kernel
theorem d_Pa_passTail_124 : decode (mB m_Pa_passTail) 124 = .ok (.invokevirtual 61, 3) := by decide +kernel
theorem d_Pa_passTail_127 : decode (mB m_Pa_passTail) 127 = .ok (.ifCond .eq 25, 3) := by decide +kernel
theorem d_Pa_passTail_130 : decode (mB m_Pa_passTail) 130 = .ok (.aload_n 0, 1) := by decide +kernel
theorem d_Pa_passTail_131 : decode (mB m_Pa_passTail) 131 = .ok (.bipush 123, 2) := by decide +kernel
theorem d_Pa_passTail_133 : decode (mB m_Pa_passTail) 133 = .ok (.invokevirtual 71, 3) := by decide +kernel
theorem d_Pa_passTail_136 : decode (mB m_Pa_passTail) 136 = .ok (.ifCond .eq 16, 3) := by decide +kernel
theorem d_Pa_passTail_139 : decode (mB m_Pa_passTail) 139 = .ok (.aload_n 0, 1) := by decide +kernel
theorem d_Pa_passTail_140 : decode (mB m_Pa_passTail) 140 = .ok (.aload_n 1, 1) := by decide +kernel
theorem d_Pa_passTail_141 : decode (mB m_Pa_passTail) 141 = .ok (.iload_n 2, 1) := by decide +kernel
theorem d_Pa_passTail_142 : decode (mB m_Pa_passTail) 142 = .ok (.invokevirtual 75, 3) := by decide +kernel
theorem d_Pa_passTail_145 : decode (mB m_Pa_passTail) 145 = .ok (.ifCond .eq 7, 3) := by decide +kernel
theorem d_Pa_passTail_148 : decode (mB m_Pa_passTail) 148 = .ok (.iconst 1, 1) := by decide +kernel
theorem d_Pa_passTail_149 : decode (mB m_Pa_passTail) 149 = .ok (.goto 4, 3) := by decide +kernel
theorem d_Pa_passTail_152 : decode (mB m_Pa_passTail) 152 = .ok (.iconst 0, 1) := by decide +kernel
theorem d_Pa_passTail_153 : decode (mB m_Pa_passTail) 153 = .ok (.ireturn, 1) := by decide +kernel
theorem d_Pa_passTail_154 : decode (mB m_Pa_passTail) 154 = .ok (.aload_n 0, 1) := by decide +kernel
theorem d_Pa_passTail_155 : decode (mB m_Pa_passTail) 155 = .ok (.aload_n 1, 1) := by decide +kernel
theorem d_Pa_passTail_156 : decode (mB m_Pa_passTail) 156 = .ok (.bipush 7, 2) := by decide +kernel
theorem d_Pa_passTail_158 : decode (mB m_Pa_passTail) 158 = .ok (.invokevirtual 78, 3) := by decide +kernel
theorem d_Pa_passTail_161 : decode (mB m_Pa_passTail) 161 = .ok (.ifCond .eq 15, 3) := by decide +kernel
theorem d_Pa_passTail_164 : decode (mB m_Pa_passTail) 164 = .ok (.aload_n 0, 1) := by decide +kernel
theorem d_Pa_passTail_165 : decode (mB m_Pa_passTail) 165 = .ok (.aload_n 1, 1) := by decide +kernel
theorem d_Pa_passTail_166 : decode (mB m_Pa_passTail) 166 = .ok (.invokevirtual 81, 3) := by decide +kernel
theorem d_Pa_passTail_169 : decode (mB m_Pa_passTail) 169 = .ok (.ifCond .eq 7, 3) := by decide +kernel
theorem d_Pa_passTail_172 : decode (mB m_Pa_passTail) 172 = .ok (.iconst 1, 1) := by decide +kernel
theorem d_Pa_passTail_173 : decode (mB m_Pa_passTail) 173 = .ok (.goto 4, 3) := by decide +kernel
theorem d_Pa_passTail_176 : decode (mB m_Pa_passTail) 176 = .ok (.iconst 0, 1) := by decide +kernel
theorem d_Pa_passTail_177 : decode (mB m_Pa_passTail) 177 = .ok (.ireturn, 1) := by decide +kernel
theorem d_Pa_passTail_178 : decode (mB m_Pa_passTail) 178 = .ok (.aload_n 1, 1) := by decide +kernel
theorem d_Pa_passTail_179 : decode (mB m_Pa_passTail) 179 = .ok (.iconst 4, 1) := by decide +kernel
theorem d_Pa_passTail_180 : decode (mB m_Pa_passTail) 180 = .ok (.invokevirtual 84, 3) := by decide +kernel
theorem d_Pa_passTail_183 : decode (mB m_Pa_passTail) 183 = .ok (.iconst 1, 1) := by decide +kernel
theorem d_Pa_passTail_184 : decode (mB m_Pa_passTail) 184 = .ok (.ireturn, 1) := by decide +kernel
theorem d_Pa_passTail_185 : decode (mB m_Pa_passTail) 185 = .ok (.aload_n 1, 1) := by decide +kernel
theorem d_Pa_passTail_186 : decode (mB m_Pa_passTail) 186 = .ok (.bipush 8, 2) := by decide +kernel
theorem d_Pa_passTail_188 : decode (mB m_Pa_passTail) 188 = .ok (.invokevirtual 84, 3) := by decide +kernel
theorem d_Pa_passTail_191 : decode (mB m_Pa_passTail) 191 = .ok (.iconst 1, 1) := by decide +kernel
theorem d_Pa_passTail_192 : decode (mB m_Pa_passTail) 192 = .ok (.ireturn, 1) := by decide +kernel
theorem d_Pa_passTail_193 : decode (mB m_Pa_passTail) 193 = .ok (.iconst 1, 1) := by decide +kernel
theorem d_Pa_passTail_194 : decode (mB m_Pa_passTail) 194 = .ok (.ireturn, 1) := by decide +kernel
theorem d_Pa_passTail_195 : decode (mB m_Pa_passTail) 195 = .ok (.aload_n 0, 1) := by decide +kernel
theorem d_Pa_passTail_196 : decode (mB m_Pa_passTail) 196 = .ok (.aload_n 1, 1) := by decide +kernel
theorem d_Pa_passTail_197 : decode (mB m_Pa_passTail) 197 = .ok (.iconst 4, 1) := by decide +kernel
theorem d_Pa_passTail_198 : decode (mB m_Pa_passTail) 198 = .ok (.invokevirtual 78, 3) := by decide +kernel
theorem d_Pa_passTail_201 : decode (mB m_Pa_passTail) 201 = .ok (.ifCond .eq 15, 3) := by decide +kernel
theorem d_Pa_passTail_204 : decode (mB m_Pa_passTail) 204 = .ok (.aload_n 0, 1) := by decide +kernel
theorem d_Pa_passTail_205 : decode (mB m_Pa_passTail) 205 = .ok (.aload_n 1, 1) := by decide +kernel
theorem d_Pa_passTail_206 : decode (mB m_Pa_passTail) 206 = .ok (.invokevirtual 81, 3) := by decide +kernel
theorem d_Pa_passTail_209 : decode (mB m_Pa_passTail) 209 = .ok (.ifCond .eq 7, 3) := by decide +kernel
theorem d_Pa_passTail_212 : decode (mB m_Pa_passTail) 212 = .ok (.iconst 1, 1) := by decide +kernel
theorem d_Pa_passTail_213 : decode (mB m_Pa_passTail) 213 = .ok (.goto 4, 3) := by decide +kernel
theorem d_Pa_passTail_216 : decode (mB m_Pa_passTail) 216 = .ok (.iconst 0, 1) := by decide +kernel
theorem d_Pa_passTail_217 : decode (mB m_Pa_passTail) 217 = .ok (.ireturn, 1) := by decide +kernel
theorem d_Pa_passPart_0 : decode (mB m_Pa_passPart) 0 = .ok (.aload_n 0, 1) := by decide +kernel
theorem d_Pa_passPart_1 : decode (mB m_Pa_passPart) 1 = .ok (.aload_n 1, 1) := by decide +kernel
theorem d_Pa_passPart_2 : decode (mB m_Pa_passPart) 2 = .ok (.iload_n 2, 1) := by decide +kernel
theorem d_Pa_passPart_3 : decode (mB m_Pa_passPart) 3 = .ok (.iload_n 3, 1) := by decide +kernel
theorem d_Pa_passPart_4 : decode (mB m_Pa_passPart) 4 = .ok (.iconst 1, 1) := by decide +kernel
theorem d_Pa_passPart_5 : decode (mB m_Pa_passPart) 5 = .ok (.iadd, 1) := by decide +kernel
theorem d_Pa_passPart_6 : decode (mB m_Pa_passPart) 6 = .ok (.invokevirtual 28, 3) := by decide +kernel
theorem d_Pa_passPart_9 : decode (mB m_Pa_passPart) 9 = .ok (.astore 4, 2) := by decide +kernel
theorem d_Pa_passPart_11 : decode (mB m_Pa_passPart) 11 = .ok (.aload 4, 2) := by decide +kernel
theorem d_Pa_passPart_13 : decode (mB m_Pa_passPart) 13 = .ok (.ifnull 9, 3) := by decide +kernel
theorem d_Pa_passPart_16 : decode (mB m_Pa_passPart) 16 = .ok (.aload_n 1, 1) := by decide +kernel
theorem d_Pa_passPart_17 : decode (mB m_Pa_passPart) 17 = .ok (.aload 4, 2) := by decide +kernel
theorem d_Pa_passPart_19 : decode (mB m_Pa_passPart) 19 = .ok (.invokevirtual 88, 3) := by decide +kernel
theorem d_Pa_passPart_22 : decode (mB m_Pa_passPart) 22 = .ok (.aload 4, 2) := by decide +kernel
theorem d_Pa_passPart_24 : decode (mB m_Pa_passPart) 24 = .ok (.areturn, 1) := by decide +kernel
theorem d_Pa_passFields_0 : decode (mB m_Pa_passFields) 0 = .ok (.iconst 0, 1) := by decide +kernel
theorem d_Pa_passFields_1 : decode (mB m_Pa_passFields) 1 = .ok (.istore_n 3, 1) := by decide +kernel
theorem d_Pa_passFields_2 : decode (mB m_Pa_passFields) 2 = .ok (.iload_n 3, 1) := by decide +kernel
theorem d_Pa_passFields_3 : decode (mB m_Pa_passFields) 3 = .ok (.bipush 90, 2) := by decide +kernel
theorem d_Pa_passFields_5 : decode (mB m_Pa_passFields) 5 = .ok (.if_icmp .ge 36, 3) := by decide +kernel
theorem d_Pa_passFields_8 : decode (mB m_Pa_passFields) 8 = .ok (.aload_n 0, 1) := by decide +kernel
theorem d_Pa_passFields_9 : decode (mB m_Pa_passFields) 9 = .ok (.bipush 125, 2) := by decide +kernel
theorem d_Pa_passFields_11 : decode (mB m_Pa_passFields) 11 = .ok (.invokevirtual 71, 3) := by decide +kernel
theorem d_Pa_passFields_14 : decode (mB m_Pa_passFields) 14 = .ok (.ifCond .eq 5, 3) := by decide +kernel
theorem d_Pa_passFields_17 : decode (mB m_Pa_passFields) 17 = .ok (.iconst 1, 1) := by decide +kernel
theorem d_Pa_passFields_18 : decode (mB m_Pa_passFields) 18 = .ok (.ireturn, 1) := by decide +kernel
theorem d_Pa_passFields_19 : decode (mB m_Pa_passFields) 19 = .ok (.iload_n 2, 1) := by decide +kernel
theorem d_Pa_passFields_20 : decode (mB m_Pa_passFields) 20 = .ok (.iconst 5, 1) := by decide +kernel
theorem d_Pa_passFields_21 : decode (mB m_Pa_passFields) 21 = .ok (.if_icmp .ge 12, 3) := by decide +kernel
theorem d_Pa_passFields_24 : decode (mB m_Pa_passFields) 24 = .ok (.aload_n 0, 1) := by decide +kernel
theorem d_Pa_passFields_25 : decode (mB m_Pa_passFields) 25 = .ok (.aload_n 1, 1) := by decide +kernel
theorem d_Pa_passFields_26 : decode (mB m_Pa_passFields) 26 = .ok (.iload_n 2, 1) := by decide +kernel
theorem d_Pa_passFields_27 : decode (mB m_Pa_passFields) 27 = .ok (.invokevirtual 92, 3) := by decide +kernel
theorem d_Pa_passFields_30 : decode (mB m_Pa_passFields) 30 = .ok (.ifCond .ne 5, 3) := by decide +kernel
theorem d_Pa_passFields_33 : decode (mB m_Pa_passFields) 33 = .ok (.iconst 0, 1) := by decide +kernel
theorem d_Pa_passFields_34 : decode (mB m_Pa_passFields) 34 = .ok (.ireturn, 1) := by decide +kernel
theorem d_Pa_passFields_35 : decode (mB m_Pa_passFields) 35 = .ok (.iinc 3 1, 3) := by decide +kernel
theorem d_Pa_passFields_38 : decode (mB m_Pa_passFields) 38 = .ok (.goto (-36), 3) := by decide +kernel
theorem d_Pa_passFields_41 : decode (mB m_Pa_passFields) 41 = .ok (.iconst 0, 1) := by decide +kernel
theorem d_Pa_passFields_42 : decode (mB m_Pa_passFields) 42 = .ok (.ireturn, 1) := by decide +kernel
theorem d_Pa_passField_0 : decode (mB m_Pa_passField) 0 = .ok (.aload_n 0, 1) := by decide +kernel
theorem d_Pa_passField_1 : decode (mB m_Pa_passField) 1 = .ok (.invokevirtual 95, 3) := by decide +kernel
theorem d_Pa_passField_4 : decode (mB m_Pa_passField) 4 = .ok (.istore_n 3, 1) := by decide +kernel
theorem d_Pa_passField_5 : decode (mB m_Pa_passField) 5 = .ok (.iload_n 3, 1) := by decide +kernel
theorem d_Pa_passField_6 : decode (mB m_Pa_passField) 6 = .ok (.iconst (-1), 1) := by decide +kernel
theorem d_Pa_passField_7 : decode (mB m_Pa_passField) 7 = .ok (.if_icmp .eq 35, 3) := by decide +kernel
theorem d_Pa_passField_10 : decode (mB m_Pa_passField) 10 = .ok (.aload_n 0, 1) := by decide +kernel
theorem d_Pa_passField_11 : decode (mB m_Pa_passField) 11 = .ok (.bipush 58, 2) := by decide +kernel
theorem d_Pa_passField_13 : decode (mB m_Pa_passField) 13 = .ok (.invokevirtual 71, 3) := by decide +kernel
theorem d_Pa_passField_16 : decode (mB m_Pa_passField) 16 = .ok (.ifCond .eq 26, 3) := by decide +kernel
theorem d_Pa_passField_19 : decode (mB m_Pa_passField) 19 = .ok (.aload_n 0, 1) := by decide +kernel
theorem d_Pa_passField_20 : decode (mB m_Pa_passField) 20 = .ok (.aload_n 1, 1) := by decide +kernel
theorem d_Pa_passField_21 : decode (mB m_Pa_passField) 21 = .ok (.iload_n 3, 1) := by decide +kernel
theorem d_Pa_passField_22 : decode (mB m_Pa_passField) 22 = .ok (.iload_n 2, 1) := by decide +kernel
theorem d_Pa_passField_23 : decode (mB m_Pa_passField) 23 = .ok (.invokevirtual 68, 3) := by decide +kernel
theorem d_Pa_passField_26 : decode (mB m_Pa_passField) 26 = .ok (.ifnull 16, 3) := by decide +kernel
theorem d_Pa_passField_29 : decode (mB m_Pa_passField) 29 = .ok (.aload_n 0, 1) := by decide +kernel
theorem d_Pa_passField_30 : decode (mB m_Pa_passField) 30 = .ok (.bipush 59, 2) := by decide +kernel
theorem d_Pa_passField_32 : decode (mB m_Pa_passField) 32 = .ok (.invokevirtual 71, 3) := by decide +kernel
theorem d_Pa_passField_35 : decode (mB m_Pa_passField) 35 = .ok (.ifCond .eq 7, 3) := by decide +kernel
theorem d_Pa_passField_38 : decode (mB m_Pa_passField) 38 = .ok (.iconst 1, 1) := by decide +kernel
theorem d_Pa_passField_39 : decode (mB m_Pa_passField) 39 = .ok (.goto 4, 3) := by decide +kernel
theorem d_Pa_passField_42 : decode (mB m_Pa_passField) 42 = .ok (.iconst 0, 1) := by decide +kernel
theorem d_Pa_passField_43 : decode (mB m_Pa_passField) 43 = .ok (.ireturn, 1) := by decide +kernel
theorem d_Pa_passCases_0 : decode (mB m_Pa_passCases) 0 = .ok (.iconst 0, 1) := by decide +kernel
theorem d_Pa_passCases_1 : decode (mB m_Pa_passCases) 1 = .ok (.istore_n 3, 1) := by decide +kernel
theorem d_Pa_passCases_2 : decode (mB m_Pa_passCases) 2 = .ok (.iload_n 3, 1) := by decide +kernel
theorem d_Pa_passCases_3 : decode (mB m_Pa_passCases) 3 = .ok (.bipush 90, 2) := by decide +kernel
theorem d_Pa_passCases_5 : decode (mB m_Pa_passCases) 5 = .ok (.if_icmp .ge 35, 3) := by decide +kernel
theorem d_Pa_passCases_8 : decode (mB m_Pa_passCases) 8 = .ok (.iload_n 3, 1) := by decide +kernel
theorem d_Pa_passCases_9 : decode (mB m_Pa_passCases) 9 = .ok (.ifCond .le 14, 3) := by decide +kernel
theorem d_Pa_passCases_12 : decode (mB m_Pa_passCases) 12 = .ok (.aload_n 0, 1) := by decide +kernel
theorem d_Pa_passCases_13 : decode (mB m_Pa_passCases) 13 = .ok (.bipush 125, 2) := by decide +kernel
theorem d_Pa_passCases_15 : decode (mB m_Pa_passCases) 15 = .ok (.invokevirtual 71, 3) := by decide +kernel
theorem d_Pa_passCases_18 : decode (mB m_Pa_passCases) 18 = .ok (.ifCond .eq 5, 3) := by decide +kernel
theorem d_Pa_passCases_21 : decode (mB m_Pa_passCases) 21 = .ok (.iconst 1, 1) := by decide +kernel
theorem d_Pa_passCases_22 : decode (mB m_Pa_passCases) 22 = .ok (.ireturn, 1) := by decide +kernel
theorem d_Pa_passCases_23 : decode (mB m_Pa_passCases) 23 = .ok (.aload_n 0, 1) := by decide +kernel
theorem d_Pa_passCases_24 : decode (mB m_Pa_passCases) 24 = .ok (.aload_n 1, 1) := by decide +kernel
theorem d_Pa_passCases_25 : decode (mB m_Pa_passCases) 25 = .ok (.iload_n 2, 1) := by decide +kernel
theorem d_Pa_passCases_26 : decode (mB m_Pa_passCases) 26 = .ok (.invokevirtual 99, 3) := by decide +kernel
theorem d_Pa_passCases_29 : decode (mB m_Pa_passCases) 29 = .ok (.ifCond .ne 5, 3) := by decide +kernel
theorem d_Pa_passCases_32 : decode (mB m_Pa_passCases) 32 = .ok (.iconst 0, 1) := by decide +kernel
theorem d_Pa_passCases_33 : decode (mB m_Pa_passCases) 33 = .ok (.ireturn, 1) := by decide +kernel
theorem d_Pa_passCases_34 : decode (mB m_Pa_passCases) 34 = .ok (.iinc 3 1, 3) := by decide +kernel
theorem d_Pa_passCases_37 : decode (mB m_Pa_passCases) 37 = .ok (.goto (-35), 3) := by decide +kernel
theorem d_Pa_passCases_40 : decode (mB m_Pa_passCases) 40 = .ok (.iconst 0, 1) := by decide +kernel
theorem d_Pa_passCases_41 : decode (mB m_Pa_passCases) 41 = .ok (.ireturn, 1) := by decide +kernel
theorem d_Pa_passCase_0 : decode (mB m_Pa_passCase) 0 = .ok (.aload_n 0, 1) := by decide +kernel
theorem d_Pa_passCase_1 : decode (mB m_Pa_passCase) 1 = .ok (.invokevirtual 102, 3) := by decide +kernel
theorem d_Pa_passCase_4 : decode (mB m_Pa_passCase) 4 = .ok (.istore_n 3, 1) := by decide +kernel
theorem d_Pa_passCase_5 : decode (mB m_Pa_passCase) 5 = .ok (.iload_n 3, 1) := by decide +kernel
theorem d_Pa_passCase_6 : decode (mB m_Pa_passCase) 6 = .ok (.ifCond .lt 12, 3) := by decide +kernel
theorem d_Pa_passCase_9 : decode (mB m_Pa_passCase) 9 = .ok (.aload_n 0, 1) := by decide +kernel
theorem d_Pa_passCase_10 : decode (mB m_Pa_passCase) 10 = .ok (.bipush 58, 2) := by decide +kernel
theorem d_Pa_passCase_12 : decode (mB m_Pa_passCase) 12 = .ok (.invokevirtual 71, 3) := by decide +kernel
theorem d_Pa_passCase_15 : decode (mB m_Pa_passCase) 15 = .ok (.ifCond .ne 5, 3) := by decide +kernel
theorem d_Pa_passCase_18 : decode (mB m_Pa_passCase) 18 = .ok (.iconst 0, 1) := by decide +kernel
theorem d_Pa_passCase_19 : decode (mB m_Pa_passCase) 19 = .ok (.ireturn, 1) := by decide +kernel
theorem d_Pa_passCase_20 : decode (mB m_Pa_passCase) 20 = .ok (.aload_n 0, 1) := by decide +kernel
theorem d_Pa_passCase_21 : decode (mB m_Pa_passCase) 21 = .ok (.aload_n 1, 1) := by decide +kernel
theorem d_Pa_passCase_22 : decode (mB m_Pa_passCase) 22 = .ok (.aload_n 1, 1) := by decide +kernel
theorem d_Pa_passCase_23 : decode (mB m_Pa_passCase) 23 = .ok (.getfield 65, 3) := by decide +kernel
theorem d_Pa_passCase_26 : decode (mB m_Pa_passCase) 26 = .ok (.iload_n 2, 1) := by decide +kernel
theorem d_Pa_passCase_27 : decode (mB m_Pa_passCase) 27 = .ok (.invokevirtual 68, 3) := by decide +kernel
theorem d_Pa_passCase_30 : decode (mB m_Pa_passCase) 30 = .ok (.astore 4, 2) := by decide +kernel
theorem d_Pa_passCase_32 : decode (mB m_Pa_passCase) 32 = .ok (.aload 4, 2) := by decide +kernel
theorem d_Pa_passCase_34 : decode (mB m_Pa_passCase) 34 = .ok (.ifnonnull 5, 3) := by decide +kernel
theorem d_Pa_passCase_37 : decode (mB m_Pa_passCase) 37 = .ok (.iconst 0, 1) := by decide +kernel
theorem d_Pa_passCase_38 : decode (mB m_Pa_passCase) 38 = .ok (.ireturn, 1) := by decide +kernel
theorem d_Pa_passCase_39 : decode (mB m_Pa_passCase) 39 = .ok (.aload 4, 2) := by decide +kernel
theorem d_Pa_passCase_41 : decode (mB m_Pa_passCase) 41 = .ok (.iload_n 3, 1) := by decide +kernel
theorem d_Pa_passCase_42 : decode (mB m_Pa_passCase) 42 = .ok (.putfield 105, 3) := by decide +kernel
theorem d_Pa_passCase_45 : decode (mB m_Pa_passCase) 45 = .ok (.aload_n 0, 1) := by decide +kernel
theorem d_Pa_passCase_46 : decode (mB m_Pa_passCase) 46 = .ok (.bipush 59, 2) := by decide +kernel
theorem d_Pa_passCase_48 : decode (mB m_Pa_passCase) 48 = .ok (.invokevirtual 71, 3) := by decide +kernel
theorem d_Pa_passCase_51 : decode (mB m_Pa_passCase) 51 = .ok (.ireturn, 1) := by decide +kernel
theorem d_Pa_passKey_0 : decode (mB m_Pa_passKey) 0 = .ok (.aload_n 1, 1) := by decide +kernel
theorem d_Pa_passKey_1 : decode (mB m_Pa_passKey) 1 = .ok (.aload_n 0, 1) := by decide +kernel
theorem d_Pa_passKey_2 : decode (mB m_Pa_passKey) 2 = .ok (.invokevirtual 95, 3) := by decide +kernel
theorem d_Pa_passKey_5 : decode (mB m_Pa_passKey) 5 = .ok (.putfield 108, 3) := by decide +kernel
theorem d_Pa_passKey_8 : decode (mB m_Pa_passKey) 8 = .ok (.aload_n 1, 1) := by decide +kernel
theorem d_Pa_passKey_9 : decode (mB m_Pa_passKey) 9 = .ok (.getfield 108, 3) := by decide +kernel
theorem d_Pa_passKey_12 : decode (mB m_Pa_passKey) 12 = .ok (.iconst (-1), 1) := by decide +kernel
theorem d_Pa_passKey_13 : decode (mB m_Pa_passKey) 13 = .ok (.if_icmp .eq 7, 3) := by decide +kernel
theorem d_Pa_passKey_16 : decode (mB m_Pa_passKey) 16 = .ok (.iconst 1, 1) := by decide +kernel
theorem d_Pa_passKey_17 : decode (mB m_Pa_passKey) 17 = .ok (.goto 4, 3) := by decide +kernel
theorem d_Pa_passKey_20 : decode (mB m_Pa_passKey) 20 = .ok (.iconst 0, 1) := by decide +kernel
theorem d_Pa_passKey_21 : decode (mB m_Pa_passKey) 21 = .ok (.ireturn, 1) := by decide +kernel
theorem d_Pa_passWidth_0 : decode (mB m_Pa_passWidth) 0 = .ok (.aload_n 0, 1) := by decide +kernel
theorem d_Pa_passWidth_1 : decode (mB m_Pa_passWidth) 1 = .ok (.getfield 9, 3) := by decide +kernel
theorem d_Pa_passWidth_4 : decode (mB m_Pa_passWidth) 4 = .ok (.aload_n 0, 1) := by decide +kernel
theorem d_Pa_passWidth_5 : decode (mB m_Pa_passWidth) 5 = .ok (.getfield 19, 3) := by decide +kernel
theorem d_Pa_passWidth_8 : decode (mB m_Pa_passWidth) 8 = .ok (.invokevirtual 37, 3) := by decide +kernel
theorem d_Pa_passWidth_11 : decode (mB m_Pa_passWidth) 11 = .ok (.bipush 48, 2) := by decide +kernel
theorem d_Pa_passWidth_13 : decode (mB m_Pa_passWidth) 13 = .ok (.isub, 1) := by decide +kernel
theorem d_Pa_passWidth_14 : decode (mB m_Pa_passWidth) 14 = .ok (.istore_n 3, 1) := by decide +kernel
theorem d_Pa_passWidth_15 : decode (mB m_Pa_passWidth) 15 = .ok (.iload_n 3, 1) := by decide +kernel
theorem d_Pa_passWidth_16 : decode (mB m_Pa_passWidth) 16 = .ok (.iconst 1, 1) := by decide +kernel
theorem d_Pa_passWidth_17 : decode (mB m_Pa_passWidth) 17 = .ok (.if_icmp .lt 8, 3) := by decide +kernel
theorem d_Pa_passWidth_20 : decode (mB m_Pa_passWidth) 20 = .ok (.iload_n 3, 1) := by decide +kernel
theorem d_Pa_passWidth_21 : decode (mB m_Pa_passWidth) 21 = .ok (.iload_n 2, 1) := by decide +kernel
theorem d_Pa_passWidth_22 : decode (mB m_Pa_passWidth) 22 = .ok (.if_icmp .le 5, 3) := by decide +kernel
theorem d_Pa_passWidth_25 : decode (mB m_Pa_passWidth) 25 = .ok (.iconst 0, 1) := by decide +kernel
theorem d_Pa_passWidth_26 : decode (mB m_Pa_passWidth) 26 = .ok (.ireturn, 1) := by decide +kernel
theorem d_Pa_passWidth_27 : decode (mB m_Pa_passWidth) 27 = .ok (.aload_n 0, 1) := by decide +kernel
theorem d_Pa_passWidth_28 : decode (mB m_Pa_passWidth) 28 = .ok (.dup, 1) := by decide +kernel
theorem d_Pa_passWidth_29 : decode (mB m_Pa_passWidth) 29 = .ok (.getfield 19, 3) := by decide +kernel
theorem d_Pa_passWidth_32 : decode (mB m_Pa_passWidth) 32 = .ok (.iconst 1, 1) := by decide +kernel
theorem d_Pa_passWidth_33 : decode (mB m_Pa_passWidth) 33 = .ok (.iadd, 1) := by decide +kernel
theorem d_Pa_passWidth_34 : decode (mB m_Pa_passWidth) 34 = .ok (.putfield 19, 3) := by decide +kernel
theorem d_Pa_passWidth_37 : decode (mB m_Pa_passWidth) 37 = .ok (.aload_n 1, 1) := by decide +kernel
theorem d_Pa_passWidth_38 : decode (mB m_Pa_passWidth) 38 = .ok (.iload_n 3, 1) := by decide +kernel
theorem d_Pa_passWidth_39 : decode (mB m_Pa_passWidth) 39 = .ok (.invokevirtual 84, 3) := by decide +kernel
theorem d_Pa_passWidth_42 : decode (mB m_Pa_passWidth) 42 = .ok (.iconst 1, 1) := by decide +kernel
theorem d_Pa_passWidth_43 : decode (mB m_Pa_passWidth) 43 = .ok (.ireturn, 1) := by decide +kernel
theorem d_Pa_passLimit_0 : decode (mB m_Pa_passLimit) 0 = .ok (.aload_n 0, 1) := by decide +kernel
theorem d_Pa_passLimit_1 : decode (mB m_Pa_passLimit) 1 = .ok (.getfield 9, 3) := by decide +kernel
theorem d_Pa_passLimit_4 : decode (mB m_Pa_passLimit) 4 = .ok (.aload_n 0, 1) := by decide +kernel
theorem d_Pa_passLimit_5 : decode (mB m_Pa_passLimit) 5 = .ok (.getfield 19, 3) := by decide +kernel
theorem d_Pa_passLimit_8 : decode (mB m_Pa_passLimit) 8 = .ok (.invokevirtual 37, 3) := by decide +kernel
theorem d_Pa_passLimit_11 : decode (mB m_Pa_passLimit) 11 = .ok (.istore_n 2, 1) := by decide +kernel
theorem d_Pa_passLimit_12 : decode (mB m_Pa_passLimit) 12 = .ok (.iload_n 2, 1) := by decide +kernel
theorem d_Pa_passLimit_13 : decode (mB m_Pa_passLimit) 13 = .ok (.bipush 60, 2) := by decide +kernel
theorem d_Pa_passLimit_15 : decode (mB m_Pa_passLimit) 15 = .ok (.if_icmp .eq 17, 3) := by decide +kernel
theorem d_Pa_passLimit_18 : decode (mB m_Pa_passLimit) 18 = .ok (.iload_n 2, 1) := by decide +kernel
theorem d_Pa_passLimit_19 : decode (mB m_Pa_passLimit) 19 = .ok (.bipush 62, 2) := by decide +kernel
theorem d_Pa_passLimit_21 : decode (mB m_Pa_passLimit) 21 = .ok (.if_icmp .eq 11, 3) := by decide +kernel
theorem d_Pa_passLimit_24 : decode (mB m_Pa_passLimit) 24 = .ok (.iload_n 2, 1) := by decide +kernel
theorem d_Pa_passLimit_25 : decode (mB m_Pa_passLimit) 25 = .ok (.bipush 61, 2) := by decide +kernel
theorem d_Pa_passLimit_27 : decode (mB m_Pa_passLimit) 27 = .ok (.if_icmp .eq 5, 3) := by decide +kernel
theorem d_Pa_passLimit_30 : decode (mB m_Pa_passLimit) 30 = .ok (.iconst 1, 1) := by decide +kernel
theorem d_Pa_passLimit_31 : decode (mB m_Pa_passLimit) 31 = .ok (.ireturn, 1) := by decide +kernel
theorem d_Pa_passLimit_32 : decode (mB m_Pa_passLimit) 32 = .ok (.aload_n 0, 1) := by decide +kernel
theorem d_Pa_passLimit_33 : decode (mB m_Pa_passLimit) 33 = .ok (.dup, 1) := by decide +kernel
theorem d_Pa_passLimit_34 : decode (mB m_Pa_passLimit) 34 = .ok (.getfield 19, 3) := by decide +kernel
theorem d_Pa_passLimit_37 : decode (mB m_Pa_passLimit) 37 = .ok (.iconst 1, 1) := by decide +kernel
theorem d_Pa_passLimit_38 : decode (mB m_Pa_passLimit) 38 = .ok (.iadd, 1) := by decide +kernel
theorem d_Pa_passLimit_39 : decode (mB m_Pa_passLimit) 39 = .ok (.putfield 19, 3) := by decide +kernel
theorem d_Pa_passLimit_42 : decode (mB m_Pa_passLimit) 42 = .ok (.aload_n 0, 1) := by decide +kernel
theorem d_Pa_passLimit_43 : decode (mB m_Pa_passLimit) 43 = .ok (.invokevirtual 102, 3) := by decide +kernel
theorem d_Pa_passLimit_46 : decode (mB m_Pa_passLimit) 46 = .ok (.istore_n 3, 1) := by decide +kernel
theorem d_Pa_passLimit_47 : decode (mB m_Pa_passLimit) 47 = .ok (.iload_n 3, 1) := by decide +kernel
theorem d_Pa_passLimit_48 : decode (mB m_Pa_passLimit) 48 = .ok (.ifCond .ge 5, 3) := by decide +kernel
theorem d_Pa_passLimit_51 : decode (mB m_Pa_passLimit) 51 = .ok (.iconst 0, 1) := by decide +kernel
theorem d_Pa_passLimit_52 : decode (mB m_Pa_passLimit) 52 = .ok (.ireturn, 1) := by decide +kernel
theorem d_Pa_passLimit_53 : decode (mB m_Pa_passLimit) 53 = .ok (.aload_n 1, 1) := by decide +kernel
theorem d_Pa_passLimit_54 : decode (mB m_Pa_passLimit) 54 = .ok (.iload_n 2, 1) := by decide +kernel
theorem d_Pa_passLimit_55 : decode (mB m_Pa_passLimit) 55 = .ok (.iload_n 3, 1) := by decide +kernel
theorem d_Pa_passLimit_56 : decode (mB m_Pa_passLimit) 56 = .ok (.invokevirtual 111, 3) := by decide +kernel
theorem d_Pa_passLimit_59 : decode (mB m_Pa_passLimit) 59 = .ok (.iconst 1, 1) := by decide +kernel
theorem d_Pa_passLimit_60 : decode (mB m_Pa_passLimit) 60 = .ok (.ireturn, 1) := by decide +kernel
theorem d_Pa_passFigure_0 : decode (mB m_Pa_passFigure) 0 = .ok (.iconst (-1), 1) := by decide +kernel
theorem d_Pa_passFigure_1 : decode (mB m_Pa_passFigure) 1 = .ok (.istore_n 1, 1) := by decide +kernel
theorem d_Pa_passFigure_2 : decode (mB m_Pa_passFigure) 2 = .ok (.iconst 0, 1) := by decide +kernel
theorem d_Pa_passFigure_3 : decode (mB m_Pa_passFigure) 3 = .ok (.istore_n 2, 1) := by decide +kernel
theorem d_Pa_passFigure_4 : decode (mB m_Pa_passFigure) 4 = .ok (.iload_n 2, 1) := by decide +kernel
theorem d_Pa_passFigure_5 : decode (mB m_Pa_passFigure) 5 = .ok (.iconst 3, 1) := by decide +kernel
theorem d_Pa_passFigure_6 : decode (mB m_Pa_passFigure) 6 = .ok (.if_icmp .ge 57, 3) := by decide +kernel
theorem d_Pa_passFigure_9 : decode (mB m_Pa_passFigure) 9 = .ok (.aload_n 0, 1) := by decide +kernel
theorem d_Pa_passFigure_10 : decode (mB m_Pa_passFigure) 10 = .ok (.getfield 9, 3) := by decide +kernel
theorem d_Pa_passFigure_13 : decode (mB m_Pa_passFigure) 13 = .ok (.aload_n 0, 1) := by decide +kernel
theorem d_Pa_passFigure_14 : decode (mB m_Pa_passFigure) 14 = .ok (.getfield 19, 3) := by decide +kernel
theorem d_Pa_passFigure_17 : decode (mB m_Pa_passFigure) 17 = .ok (.invokevirtual 37, 3) := by decide +kernel
theorem d_Pa_passFigure_20 : decode (mB m_Pa_passFigure) 20 = .ok (.bipush 48, 2) := by decide +kernel
theorem d_Pa_passFigure_22 : decode (mB m_Pa_passFigure) 22 = .ok (.isub, 1) := by decide +kernel
theorem d_Pa_passFigure_23 : decode (mB m_Pa_passFigure) 23 = .ok (.istore_n 3, 1) := by decide +kernel
theorem d_Pa_passFigure_24 : decode (mB m_Pa_passFigure) 24 = .ok (.iload_n 3, 1) := by decide +kernel
theorem d_Pa_passFigure_25 : decode (mB m_Pa_passFigure) 25 = .ok (.ifCond .lt 9, 3) := by decide +kernel
theorem d_Pa_passFigure_28 : decode (mB m_Pa_passFigure) 28 = .ok (.iload_n 3, 1) := by decide +kernel
theorem d_Pa_passFigure_29 : decode (mB m_Pa_passFigure) 29 = .ok (.bipush 9, 2) := by decide +kernel
theorem d_Pa_passFigure_31 : decode (mB m_Pa_passFigure) 31 = .ok (.if_icmp .le 5, 3) := by decide +kernel
theorem d_Pa_passFigure_34 : decode (mB m_Pa_passFigure) 34 = .ok (.iload_n 1, 1) := by decide +kernel
theorem d_Pa_passFigure_35 : decode (mB m_Pa_passFigure) 35 = .ok (.ireturn, 1) := by decide +kernel
theorem d_Pa_passFigure_36 : decode (mB m_Pa_passFigure) 36 = .ok (.aload_n 0, 1) := by decide +kernel
theorem d_Pa_passFigure_37 : decode (mB m_Pa_passFigure) 37 = .ok (.dup, 1) := by decide +kernel
theorem d_Pa_passFigure_38 : decode (mB m_Pa_passFigure) 38 = .ok (.getfield 19, 3) := by decide +kernel
theorem d_Pa_passFigure_41 : decode (mB m_Pa_passFigure) 41 = .ok (.iconst 1, 1) := by decide +kernel
theorem d_Pa_passFigure_42 : decode (mB m_Pa_passFigure) 42 = .ok (.iadd, 1) := by decide +kernel
theorem d_Pa_passFigure_43 : decode (mB m_Pa_passFigure) 43 = .ok (.putfield 19, 3) := by decide +kernel
theorem d_Pa_passFigure_46 : decode (mB m_Pa_passFigure) 46 = .ok (.iload_n 1, 1) := by decide +kernel
theorem d_Pa_passFigure_47 : decode (mB m_Pa_passFigure) 47 = .ok (.iconst 0, 1) := by decide +kernel
theorem d_Pa_passFigure_48 : decode (mB m_Pa_passFigure) 48 = .ok (.invokestatic 115, 3) := by decide +kernel
theorem d_Pa_passFigure_51 : decode (mB m_Pa_passFigure) 51 = .ok (.bipush 10, 2) := by decide +kernel
theorem d_Pa_passFigure_53 : decode (mB m_Pa_passFigure) 53 = .ok (.imul, 1) := by decide +kernel
theorem d_Pa_passFigure_54 : decode (mB m_Pa_passFigure) 54 = .ok (.iload_n 3, 1) := by decide +kernel
theorem d_Pa_passFigure_55 : decode (mB m_Pa_passFigure) 55 = .ok (.iadd, 1) := by decide +kernel
theorem d_Pa_passFigure_56 : decode (mB m_Pa_passFigure) 56 = .ok (.istore_n 1, 1) := by decide +kernel
theorem d_Pa_passFigure_57 : decode (mB m_Pa_passFigure) 57 = .ok (.iinc 2 1, 3) := by decide +kernel
theorem d_Pa_passFigure_60 : decode (mB m_Pa_passFigure) 60 = .ok (.goto (-56), 3) := by decide +kernel
theorem d_Pa_passFigure_63 : decode (mB m_Pa_passFigure) 63 = .ok (.iload_n 1, 1) := by decide +kernel
theorem d_Pa_passFigure_64 : decode (mB m_Pa_passFigure) 64 = .ok (.ireturn, 1) := by decide +kernel
theorem d_Pa_passName_0 : decode (mB m_Pa_passName) 0 = .ok (.aload_n 0, 1) := by decide +kernel
theorem d_Pa_passName_1 : decode (mB m_Pa_passName) 1 = .ok (.getfield 9, 3) := by decide +kernel
theorem d_Pa_passName_4 : decode (mB m_Pa_passName) 4 = .ok (.aload_n 0, 1) := by decide +kernel
theorem d_Pa_passName_5 : decode (mB m_Pa_passName) 5 = .ok (.getfield 19, 3) := by decide +kernel
theorem d_Pa_passName_8 : decode (mB m_Pa_passName) 8 = .ok (.invokevirtual 37, 3) := by decide +kernel
theorem d_Pa_passName_11 : decode (mB m_Pa_passName) 11 = .ok (.istore_n 1, 1) := by decide +kernel
theorem d_Pa_passName_12 : decode (mB m_Pa_passName) 12 = .ok (.iload_n 1, 1) := by decide +kernel
theorem d_Pa_passName_13 : decode (mB m_Pa_passName) 13 = .ok (.bipush 97, 2) := by decide +kernel
theorem d_Pa_passName_15 : decode (mB m_Pa_passName) 15 = .ok (.if_icmp .lt 9, 3) := by decide +kernel
theorem d_Pa_passName_18 : decode (mB m_Pa_passName) 18 = .ok (.iload_n 1, 1) := by decide +kernel
theorem d_Pa_passName_19 : decode (mB m_Pa_passName) 19 = .ok (.bipush 108, 2) := by decide +kernel
theorem d_Pa_passName_21 : decode (mB m_Pa_passName) 21 = .ok (.if_icmp .le 5, 3) := by decide +kernel
theorem d_Pa_passName_24 : decode (mB m_Pa_passName) 24 = .ok (.iconst (-1), 1) := by decide +kernel
theorem d_Pa_passName_25 : decode (mB m_Pa_passName) 25 = .ok (.ireturn, 1) := by decide +kernel
theorem d_Pa_passName_26 : decode (mB m_Pa_passName) 26 = .ok (.aload_n 0, 1) := by decide +kernel
theorem d_Pa_passName_27 : decode (mB m_Pa_passName) 27 = .ok (.dup, 1) := by decide +kernel
theorem d_Pa_passName_28 : decode (mB m_Pa_passName) 28 = .ok (.getfield 19, 3) := by decide +kernel
theorem d_Pa_passName_31 : decode (mB m_Pa_passName) 31 = .ok (.iconst 1, 1) := by decide +kernel
theorem d_Pa_passName_32 : decode (mB m_Pa_passName) 32 = .ok (.iadd, 1) := by decide +kernel
theorem d_Pa_passName_33 : decode (mB m_Pa_passName) 33 = .ok (.putfield 19, 3) := by decide +kernel
theorem d_Pa_passName_36 : decode (mB m_Pa_passName) 36 = .ok (.iload_n 1, 1) := by decide +kernel
theorem d_Pa_passName_37 : decode (mB m_Pa_passName) 37 = .ok (.bipush 97, 2) := by decide +kernel
theorem d_Pa_passName_39 : decode (mB m_Pa_passName) 39 = .ok (.isub, 1) := by decide +kernel
theorem d_Pa_passName_40 : decode (mB m_Pa_passName) 40 = .ok (.ireturn, 1) := by decide +kernel
theorem d_Pa_passSign_0 : decode (mB m_Pa_passSign) 0 = .ok (.aload_n 0, 1) := by decide +kernel
theorem d_Pa_passSign_1 : decode (mB m_Pa_passSign) 1 = .ok (.getfield 9, 3) := by decide +kernel
theorem d_Pa_passSign_4 : decode (mB m_Pa_passSign) 4 = .ok (.aload_n 0, 1) := by decide +kernel
theorem d_Pa_passSign_5 : decode (mB m_Pa_passSign) 5 = .ok (.getfield 19, 3) := by decide +kernel
theorem d_Pa_passSign_8 : decode (mB m_Pa_passSign) 8 = .ok (.invokevirtual 37, 3) := by decide +kernel
theorem d_Pa_passSign_11 : decode (mB m_Pa_passSign) 11 = .ok (.iload_n 1, 1) := by decide +kernel
theorem d_Pa_passSign_12 : decode (mB m_Pa_passSign) 12 = .ok (.if_icmp .eq 5, 3) := by decide +kernel
theorem d_Pa_passSign_15 : decode (mB m_Pa_passSign) 15 = .ok (.iconst 0, 1) := by decide +kernel
theorem d_Pa_passSign_16 : decode (mB m_Pa_passSign) 16 = .ok (.ireturn, 1) := by decide +kernel
theorem d_Pa_passSign_17 : decode (mB m_Pa_passSign) 17 = .ok (.aload_n 0, 1) := by decide +kernel
theorem d_Pa_passSign_18 : decode (mB m_Pa_passSign) 18 = .ok (.dup, 1) := by decide +kernel
theorem d_Pa_passSign_19 : decode (mB m_Pa_passSign) 19 = .ok (.getfield 19, 3) := by decide +kernel
theorem d_Pa_passSign_22 : decode (mB m_Pa_passSign) 22 = .ok (.iconst 1, 1) := by decide +kernel
theorem d_Pa_passSign_23 : decode (mB m_Pa_passSign) 23 = .ok (.iadd, 1) := by decide +kernel
theorem d_Pa_passSign_24 : decode (mB m_Pa_passSign) 24 = .ok (.putfield 19, 3) := by decide +kernel
theorem d_Pa_passSign_27 : decode (mB m_Pa_passSign) 27 = .ok (.iconst 1, 1) := by decide +kernel
theorem d_Pa_passSign_28 : decode (mB m_Pa_passSign) 28 = .ok (.ireturn, 1) := by decide +kernel
