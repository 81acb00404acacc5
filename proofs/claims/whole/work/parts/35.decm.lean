theorem d_Mo_init_0 : decode (mB m_Mo_init) 0 = .ok (.aload_n 0, 1) := by decide +kernel
theorem d_Mo_init_1 : decode (mB m_Mo_init) 1 = .ok (.invokespecial 1, 3) := by decide +kernel
theorem d_Mo_init_4 : decode (mB m_Mo_init) 4 = .ok (.aload_n 0, 1) := by decide +kernel
theorem d_Mo_init_5 : decode (mB m_Mo_init) 5 = .ok (.bipush 90, 2) := by decide +kernel
theorem d_Mo_init_7 : decode (mB m_Mo_init) 7 = .ok (.newarray .int, 2) := by decide +kernel
theorem d_Mo_init_9 : decode (mB m_Mo_init) 9 = .ok (.putfield 7, 3) := by decide +kernel
theorem d_Mo_init_12 : decode (mB m_Mo_init) 12 = .ok (.aload_n 0, 1) := by decide +kernel
theorem d_Mo_init_13 : decode (mB m_Mo_init) 13 = .ok (.bipush 90, 2) := by decide +kernel
theorem d_Mo_init_15 : decode (mB m_Mo_init) 15 = .ok (.newarray .int, 2) := by decide +kernel
theorem d_Mo_init_17 : decode (mB m_Mo_init) 17 = .ok (.putfield 13, 3) := by decide +kernel
theorem d_Mo_init_20 : decode (mB m_Mo_init) 20 = .ok (.aload_n 0, 1) := by decide +kernel
theorem d_Mo_init_21 : decode (mB m_Mo_init) 21 = .ok (.bipush 121, 2) := by decide +kernel
theorem d_Mo_init_23 : decode (mB m_Mo_init) 23 = .ok (.newarray .int, 2) := by decide +kernel
theorem d_Mo_init_25 : decode (mB m_Mo_init) 25 = .ok (.putfield 16, 3) := by decide +kernel
theorem d_Mo_init_28 : decode (mB m_Mo_init) 28 = .ok (.aload_n 0, 1) := by decide +kernel
theorem d_Mo_init_29 : decode (mB m_Mo_init) 29 = .ok (.sipush 161, 3) := by decide +kernel
theorem d_Mo_init_32 : decode (mB m_Mo_init) 32 = .ok (.newarray .long, 2) := by decide +kernel
theorem d_Mo_init_34 : decode (mB m_Mo_init) 34 = .ok (.putfield 19, 3) := by decide +kernel
theorem d_Mo_init_37 : decode (mB m_Mo_init) 37 = .ok (.aload_n 0, 1) := by decide +kernel
theorem d_Mo_init_38 : decode (mB m_Mo_init) 38 = .ok (.iconst (-1), 1) := by decide +kernel
theorem d_Mo_init_39 : decode (mB m_Mo_init) 39 = .ok (.putfield 23, 3) := by decide +kernel
theorem d_Mo_init_42 : decode (mB m_Mo_init) 42 = .ok (.aload_n 0, 1) := by decide +kernel
theorem d_Mo_init_43 : decode (mB m_Mo_init) 43 = .ok (.iconst (-1), 1) := by decide +kernel
theorem d_Mo_init_44 : decode (mB m_Mo_init) 44 = .ok (.putfield 27, 3) := by decide +kernel
theorem d_Mo_init_47 : decode (mB m_Mo_init) 47 = .ok (.aload_n 0, 1) := by decide +kernel
theorem d_Mo_init_48 : decode (mB m_Mo_init) 48 = .ok (.bipush 90, 2) := by decide +kernel
theorem d_Mo_init_50 : decode (mB m_Mo_init) 50 = .ok (.newarray .int, 2) := by decide +kernel
theorem d_Mo_init_52 : decode (mB m_Mo_init) 52 = .ok (.putfield 30, 3) := by decide +kernel
theorem d_Mo_init_55 : decode (mB m_Mo_init) 55 = .ok (.aload_n 0, 1) := by decide +kernel
theorem d_Mo_init_56 : decode (mB m_Mo_init) 56 = .ok (.bipush 90, 2) := by decide +kernel
theorem d_Mo_init_58 : decode (mB m_Mo_init) 58 = .ok (.newarray .int, 2) := by decide +kernel
theorem d_Mo_init_60 : decode (mB m_Mo_init) 60 = .ok (.putfield 33, 3) := by decide +kernel
theorem d_Mo_init_63 : decode (mB m_Mo_init) 63 = .ok (.aload_n 0, 1) := by decide +kernel
theorem d_Mo_init_64 : decode (mB m_Mo_init) 64 = .ok (.bipush 90, 2) := by decide +kernel
theorem d_Mo_init_66 : decode (mB m_Mo_init) 66 = .ok (.newarray .int, 2) := by decide +kernel
theorem d_Mo_init_68 : decode (mB m_Mo_init) 68 = .ok (.putfield 36, 3) := by decide +kernel
theorem d_Mo_init_71 : decode (mB m_Mo_init) 71 = .ok (.aload_n 0, 1) := by decide +kernel
theorem d_Mo_init_72 : decode (mB m_Mo_init) 72 = .ok (.bipush 90, 2) := by decide +kernel
theorem d_Mo_init_74 : decode (mB m_Mo_init) 74 = .ok (.newarray .int, 2) := by decide +kernel
theorem d_Mo_init_76 : decode (mB m_Mo_init) 76 = .ok (.putfield 39, 3) := by decide +kernel
theorem d_Mo_init_79 : decode (mB m_Mo_init) 79 = .ok (.aload_n 0, 1) := by decide +kernel
theorem d_Mo_init_80 : decode (mB m_Mo_init) 80 = .ok (.bipush 90, 2) := by decide +kernel
theorem d_Mo_init_82 : decode (mB m_Mo_init) 82 = .ok (.newarray .int, 2) := by decide +kernel
theorem d_Mo_init_84 : decode (mB m_Mo_init) 84 = .ok (.putfield 42, 3) := by decide +kernel
theorem d_Mo_init_87 : decode (mB m_Mo_init) 87 = .ok (.aload_n 0, 1) := by decide +kernel
theorem d_Mo_init_88 : decode (mB m_Mo_init) 88 = .ok (.bipush 90, 2) := by decide +kernel
theorem d_Mo_init_90 : decode (mB m_Mo_init) 90 = .ok (.newarray .int, 2) := by decide +kernel
theorem d_Mo_init_92 : decode (mB m_Mo_init) 92 = .ok (.putfield 45, 3) := by decide +kernel
theorem d_Mo_init_95 : decode (mB m_Mo_init) 95 = .ok (.aload_n 0, 1) := by decide +kernel
theorem d_Mo_init_96 : decode (mB m_Mo_init) 96 = .ok (.bipush 90, 2) := by decide +kernel
theorem d_Mo_init_98 : decode (mB m_Mo_init) 98 = .ok (.newarray .int, 2) := by decide +kernel
theorem d_Mo_init_100 : decode (mB m_Mo_init) 100 = .ok (.putfield 48, 3) := by decide +kernel
theorem d_Mo_init_103 : decode (mB m_Mo_init) 103 = .ok (.aload_n 0, 1) := by decide +kernel
theorem d_Mo_init_104 : decode (mB m_Mo_init) 104 = .ok (.bipush 90, 2) := by decide +kernel
theorem d_Mo_init_106 : decode (mB m_Mo_init) 106 = .ok (.newarray .int, 2) := by decide +kernel
theorem d_Mo_init_108 : decode (mB m_Mo_init) 108 = .ok (.putfield 51, 3) := by decide +kernel
theorem d_Mo_init_111 : decode (mB m_Mo_init) 111 = .ok (.aload_n 0, 1) := by decide +kernel
theorem d_Mo_init_112 : decode (mB m_Mo_init) 112 = .ok (.bipush 90, 2) := by decide +kernel
theorem d_Mo_init_114 : decode (mB m_Mo_init) 114 = .ok (.newarray .int, 2) := by decide +kernel
theorem d_Mo_init_116 : decode (mB m_Mo_init) 116 = .ok (.putfield 54, 3) := by decide +kernel
theorem d_Mo_init_119 : decode (mB m_Mo_init) 119 = .ok (.aload_n 0, 1) := by decide +kernel
theorem d_Mo_init_120 : decode (mB m_Mo_init) 120 = .ok (.bipush 90, 2) := by decide +kernel
theorem d_Mo_init_122 : decode (mB m_Mo_init) 122 = .ok (.newarray .int, 2) := by decide +kernel
theorem d_Mo_init_124 : decode (mB m_Mo_init) 124 = .ok (.putfield 57, 3) := by decide +kernel
theorem d_Mo_init_127 : decode (mB m_Mo_init) 127 = .ok (.aload_n 0, 1) := by decide +kernel
theorem d_Mo_init_128 : decode (mB m_Mo_init) 128 = .ok (.bipush 90, 2) := by decide +kernel
theorem d_Mo_init_130 : decode (mB m_Mo_init) 130 = .ok (.newarray .int, 2) := by decide +kernel
theorem d_Mo_init_132 : decode (mB m_Mo_init) 132 = .ok (.putfield 60, 3) := by decide +kernel
theorem d_Mo_init_135 : decode (mB m_Mo_init) 135 = .ok (.aload_n 0, 1) := by decide +kernel
theorem d_Mo_init_136 : decode (mB m_Mo_init) 136 = .ok (.bipush 8, 2) := by decide +kernel
theorem d_Mo_init_138 : decode (mB m_Mo_init) 138 = .ok (.newarray .int, 2) := by decide +kernel
theorem d_Mo_init_140 : decode (mB m_Mo_init) 140 = .ok (.putfield 63, 3) := by decide +kernel
theorem d_Mo_init_143 : decode (mB m_Mo_init) 143 = .ok (.aload_n 0, 1) := by decide +kernel
theorem d_Mo_init_144 : decode (mB m_Mo_init) 144 = .ok (.bipush 8, 2) := by decide +kernel
theorem d_Mo_init_146 : decode (mB m_Mo_init) 146 = .ok (.newarray .int, 2) := by decide +kernel
theorem d_Mo_init_148 : decode (mB m_Mo_init) 148 = .ok (.putfield 66, 3) := by decide +kernel
theorem d_Mo_init_151 : decode (mB m_Mo_init) 151 = .ok (.aload_n 0, 1) := by decide +kernel
theorem d_Mo_init_152 : decode (mB m_Mo_init) 152 = .ok (.bipush 8, 2) := by decide +kernel
theorem d_Mo_init_154 : decode (mB m_Mo_init) 154 = .ok (.newarray .int, 2) := by decide +kernel
theorem d_Mo_init_156 : decode (mB m_Mo_init) 156 = .ok (.putfield 69, 3) := by decide +kernel
theorem d_Mo_init_159 : decode (mB m_Mo_init) 159 = .ok (.aload_n 0, 1) := by decide +kernel
theorem d_Mo_init_160 : decode (mB m_Mo_init) 160 = .ok (.bipush 8, 2) := by decide +kernel
theorem d_Mo_init_162 : decode (mB m_Mo_init) 162 = .ok (.newarray .int, 2) := by decide +kernel
theorem d_Mo_init_164 : decode (mB m_Mo_init) 164 = .ok (.putfield 72, 3) := by decide +kernel
theorem d_Mo_init_167 : decode (mB m_Mo_init) 167 = .ok (.aload_n 0, 1) := by decide +kernel
theorem d_Mo_init_168 : decode (mB m_Mo_init) 168 = .ok (.bipush 90, 2) := by decide +kernel
theorem d_Mo_init_170 : decode (mB m_Mo_init) 170 = .ok (.newarray .long, 2) := by decide +kernel
theorem d_Mo_init_172 : decode (mB m_Mo_init) 172 = .ok (.putfield 75, 3) := by decide +kernel
theorem d_Mo_init_175 : decode (mB m_Mo_init) 175 = .ok (.aload_n 0, 1) := by decide +kernel
theorem d_Mo_init_176 : decode (mB m_Mo_init) 176 = .ok (.bipush 90, 2) := by decide +kernel
theorem d_Mo_init_178 : decode (mB m_Mo_init) 178 = .ok (.newarray .long, 2) := by decide +kernel
theorem d_Mo_init_180 : decode (mB m_Mo_init) 180 = .ok (.putfield 78, 3) := by decide +kernel
theorem d_Mo_init_183 : decode (mB m_Mo_init) 183 = .ok (.aload_n 0, 1) := by decide +kernel
theorem d_Mo_init_184 : decode (mB m_Mo_init) 184 = .ok (.bipush 90, 2) := by decide +kernel
theorem d_Mo_init_186 : decode (mB m_Mo_init) 186 = .ok (.newarray .long, 2) := by decide +kernel
theorem d_Mo_init_188 : decode (mB m_Mo_init) 188 = .ok (.putfield 81, 3) := by decide +kernel
theorem d_Mo_init_191 : decode (mB m_Mo_init) 191 = .ok (.aload_n 0, 1) := by decide +kernel
theorem d_Mo_init_192 : decode (mB m_Mo_init) 192 = .ok (.bipush 90, 2) := by decide +kernel
theorem d_Mo_init_194 : decode (mB m_Mo_init) 194 = .ok (.newarray .long, 2) := by decide +kernel
theorem d_Mo_init_196 : decode (mB m_Mo_init) 196 = .ok (.putfield 84, 3) := by decide +kernel
theorem d_Mo_init_199 : decode (mB m_Mo_init) 199 = .ok (.aload_n 0, 1) := by decide +kernel
theorem d_Mo_init_200 : decode (mB m_Mo_init) 200 = .ok (.bipush 90, 2) := by decide +kernel
theorem d_Mo_init_202 : decode (mB m_Mo_init) 202 = .ok (.newarray .int, 2) := by decide +kernel
theorem d_Mo_init_204 : decode (mB m_Mo_init) 204 = .ok (.putfield 87, 3) := by decide +kernel
theorem d_Mo_init_207 : decode (mB m_Mo_init) 207 = .ok (.aload_n 0, 1) := by decide +kernel
theorem d_Mo_init_208 : decode (mB m_Mo_init) 208 = .ok (.bipush 90, 2) := by decide +kernel
theorem d_Mo_init_210 : decode (mB m_Mo_init) 210 = .ok (.newarray .long, 2) := by decide +kernel
theorem d_Mo_init_212 : decode (mB m_Mo_init) 212 = .ok (.putfield 90, 3) := by decide +kernel
theorem d_Mo_init_215 : decode (mB m_Mo_init) 215 = .ok (.aload_n 0, 1) := by decide +kernel
theorem d_Mo_init_216 : decode (mB m_Mo_init) 216 = .ok (.bipush 8, 2) := by decide +kernel
theorem d_Mo_init_218 : decode (mB m_Mo_init) 218 = .ok (.newarray .int, 2) := by decide +kernel
theorem d_Mo_init_220 : decode (mB m_Mo_init) 220 = .ok (.putfield 93, 3) := by decide +kernel
theorem d_Mo_init_223 : decode (mB m_Mo_init) 223 = .ok (.aload_n 0, 1) := by decide +kernel
theorem d_Mo_init_224 : decode (mB m_Mo_init) 224 = .ok (.bipush 8, 2) := by decide +kernel
theorem d_Mo_init_226 : decode (mB m_Mo_init) 226 = .ok (.newarray .int, 2) := by decide +kernel
theorem d_Mo_init_228 : decode (mB m_Mo_init) 228 = .ok (.putfield 96, 3) := by decide +kernel
theorem d_Mo_init_231 : decode (mB m_Mo_init) 231 = .ok (.aload_n 0, 1) := by decide +kernel
theorem d_Mo_init_232 : decode (mB m_Mo_init) 232 = .ok (.bipush 8, 2) := by decide +kernel
theorem d_Mo_init_234 : decode (mB m_Mo_init) 234 = .ok (.newarray .long, 2) := by decide +kernel
theorem d_Mo_init_236 : decode (mB m_Mo_init) 236 = .ok (.putfield 99, 3) := by decide +kernel
theorem d_Mo_init_239 : decode (mB m_Mo_init) 239 = .ok (.aload_n 0, 1) := by decide +kernel
theorem d_Mo_init_240 : decode (mB m_Mo_init) 240 = .ok (.bipush 8, 2) := by decide +kernel
theorem d_Mo_init_242 : decode (mB m_Mo_init) 242 = .ok (.newarray .int, 2) := by decide +kernel
theorem d_Mo_init_244 : decode (mB m_Mo_init) 244 = .ok (.putfield 102, 3) := by decide +kernel
theorem d_Mo_init_247 : decode (mB m_Mo_init) 247 = .ok (.aload_n 0, 1) := by decide +kernel
theorem d_Mo_init_248 : decode (mB m_Mo_init) 248 = .ok (.bipush 121, 2) := by decide +kernel
theorem d_Mo_init_250 : decode (mB m_Mo_init) 250 = .ok (.newarray .int, 2) := by decide +kernel
theorem d_Mo_init_252 : decode (mB m_Mo_init) 252 = .ok (.putfield 105, 3) := by decide +kernel
theorem d_Mo_init_255 : decode (mB m_Mo_init) 255 = .ok (.aload_n 0, 1) := by decide +kernel
theorem d_Mo_init_256 : decode (mB m_Mo_init) 256 = .ok (.sipush 161, 3) := by decide +kernel
theorem d_Mo_init_259 : decode (mB m_Mo_init) 259 = .ok (.newarray .long, 2) := by decide +kernel
theorem d_Mo_init_261 : decode (mB m_Mo_init) 261 = .ok (.putfield 108, 3) := by decide +kernel
theorem d_Mo_init_264 : decode (mB m_Mo_init) 264 = .ok (.return_, 1) := by decide +kernel
theorem d_Mo_thrown_0 : decode (mB m_Mo_thrown) 0 = .ok (.aload_n 0, 1) := by decide +kernel
theorem d_Mo_thrown_1 : decode (mB m_Mo_thrown) 1 = .ok (.getfield 111, 3) := by decide +kernel
theorem d_Mo_thrown_4 : decode (mB m_Mo_thrown) 4 = .ok (.ireturn, 1) := by decide +kernel
theorem d_Mo_fail_0 : decode (mB m_Mo_fail) 0 = .ok (.aload_n 0, 1) := by decide +kernel
theorem d_Mo_fail_1 : decode (mB m_Mo_fail) 1 = .ok (.iload_n 1, 1) := by decide +kernel
theorem d_Mo_fail_2 : decode (mB m_Mo_fail) 2 = .ok (.putfield 111, 3) := by decide +kernel
theorem d_Mo_fail_5 : decode (mB m_Mo_fail) 5 = .ok (.iconst 0, 1) := by decide +kernel
theorem d_Mo_fail_6 : decode (mB m_Mo_fail) 6 = .ok (.ireturn, 1) := by decide +kernel
theorem d_Mo_out_0 : decode (mB m_Mo_out) 0 = .ok (.iload_n 1, 1) := by decide +kernel
theorem d_Mo_out_1 : decode (mB m_Mo_out) 1 = .ok (.ifCond .lt 8, 3) := by decide +kernel
theorem d_Mo_out_4 : decode (mB m_Mo_out) 4 = .ok (.iload_n 1, 1) := by decide +kernel
theorem d_Mo_out_5 : decode (mB m_Mo_out) 5 = .ok (.iload_n 2, 1) := by decide +kernel
theorem d_Mo_out_6 : decode (mB m_Mo_out) 6 = .ok (.if_icmp .lt 7, 3) := by decide +kernel
theorem d_Mo_out_9 : decode (mB m_Mo_out) 9 = .ok (.iconst 1, 1) := by decide +kernel
theorem d_Mo_out_10 : decode (mB m_Mo_out) 10 = .ok (.goto 4, 3) := by decide +kernel
theorem d_Mo_out_13 : decode (mB m_Mo_out) 13 = .ok (.iconst 0, 1) := by decide +kernel
theorem d_Mo_out_14 : decode (mB m_Mo_out) 14 = .ok (.ireturn, 1) := by decide +kernel
theorem d_Mo_isDigit_0 : decode (mB m_Mo_isDigit) 0 = .ok (.iload_n 1, 1) := by decide +kernel
theorem d_Mo_isDigit_1 : decode (mB m_Mo_isDigit) 1 = .ok (.bipush 48, 2) := by decide +kernel
theorem d_Mo_isDigit_3 : decode (mB m_Mo_isDigit) 3 = .ok (.if_icmp .lt 13, 3) := by decide +kernel
theorem d_Mo_isDigit_6 : decode (mB m_Mo_isDigit) 6 = .ok (.iload_n 1, 1) := by decide +kernel
theorem d_Mo_isDigit_7 : decode (mB m_Mo_isDigit) 7 = .ok (.bipush 57, 2) := by decide +kernel
theorem d_Mo_isDigit_9 : decode (mB m_Mo_isDigit) 9 = .ok (.if_icmp .gt 7, 3) := by decide +kernel
theorem d_Mo_isDigit_12 : decode (mB m_Mo_isDigit) 12 = .ok (.iconst 1, 1) := by decide +kernel
theorem d_Mo_isDigit_13 : decode (mB m_Mo_isDigit) 13 = .ok (.goto 4, 3) := by decide +kernel
theorem d_Mo_isDigit_16 : decode (mB m_Mo_isDigit) 16 = .ok (.iconst 0, 1) := by decide +kernel
theorem d_Mo_isDigit_17 : decode (mB m_Mo_isDigit) 17 = .ok (.ireturn, 1) := by decide +kernel
theorem d_Mo_sized_0 : decode (mB m_Mo_sized) 0 = .ok (.iload_n 1, 1) := by decide +kernel
theorem d_Mo_sized_1 : decode (mB m_Mo_sized) 1 = .ok (.bipush 117, 2) := by decide +kernel
theorem d_Mo_sized_3 : decode (mB m_Mo_sized) 3 = .ok (.if_icmp .eq 21, 3) := by decide +kernel
theorem d_Mo_sized_6 : decode (mB m_Mo_sized) 6 = .ok (.iload_n 1, 1) := by decide +kernel
theorem d_Mo_sized_7 : decode (mB m_Mo_sized) 7 = .ok (.bipush 118, 2) := by decide +kernel
theorem d_Mo_sized_9 : decode (mB m_Mo_sized) 9 = .ok (.if_icmp .eq 15, 3) := by decide +kernel
theorem d_Mo_sized_12 : decode (mB m_Mo_sized) 12 = .ok (.iload_n 1, 1) := by decide +kernel
theorem d_Mo_sized_13 : decode (mB m_Mo_sized) 13 = .ok (.bipush 115, 2) := by decide +kernel
theorem d_Mo_sized_15 : decode (mB m_Mo_sized) 15 = .ok (.if_icmp .eq 9, 3) := by decide +kernel
theorem d_Mo_sized_18 : decode (mB m_Mo_sized) 18 = .ok (.iload_n 1, 1) := by decide +kernel
theorem d_Mo_sized_19 : decode (mB m_Mo_sized) 19 = .ok (.bipush 112, 2) := by decide +kernel
theorem d_Mo_sized_21 : decode (mB m_Mo_sized) 21 = .ok (.if_icmp .ne 7, 3) := by decide +kernel
theorem d_Mo_sized_24 : decode (mB m_Mo_sized) 24 = .ok (.iconst 1, 1) := by decide +kernel
theorem d_Mo_sized_25 : decode (mB m_Mo_sized) 25 = .ok (.goto 4, 3) := by decide +kernel
theorem d_Mo_sized_28 : decode (mB m_Mo_sized) 28 = .ok (.iconst 0, 1) := by decide +kernel
theorem d_Mo_sized_29 : decode (mB m_Mo_sized) 29 = .ok (.ireturn, 1) := by decide +kernel
theorem d_Mo_type_0 : decode (mB m_Mo_type) 0 = .ok (.aload_n 0, 1) := by decide +kernel
theorem d_Mo_type_1 : decode (mB m_Mo_type) 1 = .ok (.iconst 0, 1) := by decide +kernel
theorem d_Mo_type_2 : decode (mB m_Mo_type) 2 = .ok (.putfield 111, 3) := by decide +kernel
theorem d_Mo_type_5 : decode (mB m_Mo_type) 5 = .ok (.iconst 0, 1) := by decide +kernel
theorem d_Mo_type_6 : decode (mB m_Mo_type) 6 = .ok (.istore_n 3, 1) := by decide +kernel
theorem d_Mo_type_7 : decode (mB m_Mo_type) 7 = .ok (.iconst 0, 1) := by decide +kernel
theorem d_Mo_type_8 : decode (mB m_Mo_type) 8 = .ok (.istore 4, 2) := by decide +kernel
theorem d_Mo_type_10 : decode (mB m_Mo_type) 10 = .ok (.iload 4, 2) := by decide +kernel
theorem d_Mo_type_12 : decode (mB m_Mo_type) 12 = .ok (.bipush 8, 2) := by decide +kernel
theorem d_Mo_type_14 : decode (mB m_Mo_type) 14 = .ok (.if_icmp .ge 61, 3) := by decide +kernel
theorem d_Mo_type_17 : decode (mB m_Mo_type) 17 = .ok (.lload_n 1, 1) := by decide +kernel
theorem d_Mo_type_18 : decode (mB m_Mo_type) 18 = .ok (.bipush 8, 2) := by decide +kernel
theorem d_Mo_type_20 : decode (mB m_Mo_type) 20 = .ok (.iload 4, 2) := by decide +kernel
theorem d_Mo_type_22 : decode (mB m_Mo_type) 22 = .ok (.imul, 1) := by decide +kernel
theorem d_Mo_type_23 : decode (mB m_Mo_type) 23 = .ok (.lshr, 1) := by decide +kernel
theorem d_Mo_type_24 : decode (mB m_Mo_type) 24 = .ok (.l2i, 1) := by decide +kernel
theorem d_Mo_type_25 : decode (mB m_Mo_type) 25 = .ok (.sipush 255, 3) := by decide +kernel
theorem d_Mo_type_28 : decode (mB m_Mo_type) 28 = .ok (.iand, 1) := by decide +kernel
theorem d_Mo_type_29 : decode (mB m_Mo_type) 29 = .ok (.istore 5, 2) := by decide +kernel
theorem d_Mo_type_31 : decode (mB m_Mo_type) 31 = .ok (.iload 5, 2) := by decide +kernel
theorem d_Mo_type_33 : decode (mB m_Mo_type) 33 = .ok (.ifCond .eq 23, 3) := by decide +kernel
theorem d_Mo_type_36 : decode (mB m_Mo_type) 36 = .ok (.iload 5, 2) := by decide +kernel
theorem d_Mo_type_38 : decode (mB m_Mo_type) 38 = .ok (.bipush 33, 2) := by decide +kernel
theorem d_Mo_type_40 : decode (mB m_Mo_type) 40 = .ok (.if_icmp .lt 10, 3) := by decide +kernel
theorem d_Mo_type_43 : decode (mB m_Mo_type) 43 = .ok (.iload 5, 2) := by decide +kernel
theorem d_Mo_type_45 : decode (mB m_Mo_type) 45 = .ok (.bipush 126, 2) := by decide +kernel
theorem d_Mo_type_47 : decode (mB m_Mo_type) 47 = .ok (.if_icmp .le 9, 3) := by decide +kernel
theorem d_Mo_type_50 : decode (mB m_Mo_type) 50 = .ok (.aload_n 0, 1) := by decide +kernel
theorem d_Mo_type_51 : decode (mB m_Mo_type) 51 = .ok (.iconst 1, 1) := by decide +kernel
theorem d_Mo_type_52 : decode (mB m_Mo_type) 52 = .ok (.invokevirtual 114, 3) := by decide +kernel
theorem d_Mo_type_55 : decode (mB m_Mo_type) 55 = .ok (.ireturn, 1) := by decide +kernel
theorem d_Mo_type_56 : decode (mB m_Mo_type) 56 = .ok (.iload_n 3, 1) := by decide +kernel
theorem d_Mo_type_57 : decode (mB m_Mo_type) 57 = .ok (.iload 5, 2) := by decide +kernel
theorem d_Mo_type_59 : decode (mB m_Mo_type) 59 = .ok (.ifCond .eq 7, 3) := by decide +kernel
theorem d_Mo_type_62 : decode (mB m_Mo_type) 62 = .ok (.iconst 1, 1) := by decide +kernel
theorem d_Mo_type_63 : decode (mB m_Mo_type) 63 = .ok (.goto 4, 3) := by decide +kernel
theorem d_Mo_type_66 : decode (mB m_Mo_type) 66 = .ok (.iconst 0, 1) := by decide +kernel
theorem d_Mo_type_67 : decode (mB m_Mo_type) 67 = .ok (.iadd, 1) := by decide +kernel
theorem d_Mo_type_68 : decode (mB m_Mo_type) 68 = .ok (.istore_n 3, 1) := by decide +kernel
theorem d_Mo_type_69 : decode (mB m_Mo_type) 69 = .ok (.iinc 4 1, 3) := by decide +kernel
theorem d_Mo_type_72 : decode (mB m_Mo_type) 72 = .ok (.goto (-62), 3) := by decide +kernel
theorem d_Mo_type_75 : decode (mB m_Mo_type) 75 = .ok (.aload_n 0, 1) := by decide +kernel
theorem d_Mo_type_76 : decode (mB m_Mo_type) 76 = .ok (.getfield 118, 3) := by decide +kernel
theorem d_Mo_type_79 : decode (mB m_Mo_type) 79 = .ok (.iload_n 3, 1) := by decide +kernel
theorem d_Mo_type_80 : decode (mB m_Mo_type) 80 = .ok (.iadd, 1) := by decide +kernel
theorem d_Mo_type_81 : decode (mB m_Mo_type) 81 = .ok (.bipush 90, 2) := by decide +kernel
theorem d_Mo_type_83 : decode (mB m_Mo_type) 83 = .ok (.if_icmp .le 9, 3) := by decide +kernel
theorem d_Mo_type_86 : decode (mB m_Mo_type) 86 = .ok (.aload_n 0, 1) := by decide +kernel
theorem d_Mo_type_87 : decode (mB m_Mo_type) 87 = .ok (.iconst 2, 1) := by decide +kernel
theorem d_Mo_type_88 : decode (mB m_Mo_type) 88 = .ok (.invokevirtual 114, 3) := by decide +kernel
theorem d_Mo_type_91 : decode (mB m_Mo_type) 91 = .ok (.ireturn, 1) := by decide +kernel
theorem d_Mo_type_92 : decode (mB m_Mo_type) 92 = .ok (.bipush 7, 2) := by decide +kernel
theorem d_Mo_type_94 : decode (mB m_Mo_type) 94 = .ok (.istore 4, 2) := by decide +kernel
theorem d_Mo_type_96 : decode (mB m_Mo_type) 96 = .ok (.iload 4, 2) := by decide +kernel
theorem d_Mo_type_98 : decode (mB m_Mo_type) 98 = .ok (.ifCond .lt 49, 3) := by decide +kernel
theorem d_Mo_type_101 : decode (mB m_Mo_type) 101 = .ok (.lload_n 1, 1) := by decide +kernel
theorem d_Mo_type_102 : decode (mB m_Mo_type) 102 = .ok (.bipush 8, 2) := by decide +kernel
theorem d_Mo_type_104 : decode (mB m_Mo_type) 104 = .ok (.iload 4, 2) := by decide +kernel
theorem d_Mo_type_106 : decode (mB m_Mo_type) 106 = .ok (.imul, 1) := by decide +kernel
theorem d_Mo_type_107 : decode (mB m_Mo_type) 107 = .ok (.lshr, 1) := by decide +kernel
theorem d_Mo_type_108 : decode (mB m_Mo_type) 108 = .ok (.l2i, 1) := by decide +kernel
theorem d_Mo_type_109 : decode (mB m_Mo_type) 109 = .ok (.sipush 255, 3) := by decide +kernel
theorem d_Mo_type_112 : decode (mB m_Mo_type) 112 = .ok (.iand, 1) := by decide +kernel
theorem d_Mo_type_113 : decode (mB m_Mo_type) 113 = .ok (.istore 5, 2) := by decide +kernel
theorem d_Mo_type_115 : decode (mB m_Mo_type) 115 = .ok (.iload 5, 2) := by decide +kernel
theorem d_Mo_type_117 : decode (mB m_Mo_type) 117 = .ok (.ifCond .eq 24, 3) := by decide +kernel
theorem d_Mo_type_120 : decode (mB m_Mo_type) 120 = .ok (.aload_n 0, 1) := by decide +kernel
theorem d_Mo_type_121 : decode (mB m_Mo_type) 121 = .ok (.getfield 7, 3) := by decide +kernel
theorem d_Mo_type_124 : decode (mB m_Mo_type) 124 = .ok (.aload_n 0, 1) := by decide +kernel
theorem d_Mo_type_125 : decode (mB m_Mo_type) 125 = .ok (.getfield 118, 3) := by decide +kernel
theorem d_Mo_type_128 : decode (mB m_Mo_type) 128 = .ok (.iload 5, 2) := by decide +kernel
theorem d_Mo_type_130 : decode (mB m_Mo_type) 130 = .ok (.iastore, 1) := by decide +kernel
theorem d_Mo_type_131 : decode (mB m_Mo_type) 131 = .ok (.aload_n 0, 1) := by decide +kernel
theorem d_Mo_type_132 : decode (mB m_Mo_type) 132 = .ok (.dup, 1) := by decide +kernel
theorem d_Mo_type_133 : decode (mB m_Mo_type) 133 = .ok (.getfield 118, 3) := by decide +kernel
theorem d_Mo_type_136 : decode (mB m_Mo_type) 136 = .ok (.iconst 1, 1) := by decide +kernel
theorem d_Mo_type_137 : decode (mB m_Mo_type) 137 = .ok (.iadd, 1) := by decide +kernel
theorem d_Mo_type_138 : decode (mB m_Mo_type) 138 = .ok (.putfield 118, 3) := by decide +kernel
theorem d_Mo_type_141 : decode (mB m_Mo_type) 141 = .ok (.iinc 4 (-1), 3) := by decide +kernel
theorem d_Mo_type_144 : decode (mB m_Mo_type) 144 = .ok (.goto (-48), 3) := by decide +kernel
theorem d_Mo_type_147 : decode (mB m_Mo_type) 147 = .ok (.aload_n 0, 1) := by decide +kernel
theorem d_Mo_type_148 : decode (mB m_Mo_type) 148 = .ok (.getfield 118, 3) := by decide +kernel
theorem d_Mo_type_151 : decode (mB m_Mo_type) 151 = .ok (.ireturn, 1) := by decide +kernel
theorem d_Mo_clear_0 : decode (mB m_Mo_clear) 0 = .ok (.aload_n 0, 1) := by decide +kernel
theorem d_Mo_clear_1 : decode (mB m_Mo_clear) 1 = .ok (.iconst 0, 1) := by decide +kernel
theorem d_Mo_clear_2 : decode (mB m_Mo_clear) 2 = .ok (.putfield 111, 3) := by decide +kernel
theorem d_Mo_clear_5 : decode (mB m_Mo_clear) 5 = .ok (.aload_n 0, 1) := by decide +kernel
theorem d_Mo_clear_6 : decode (mB m_Mo_clear) 6 = .ok (.getfield 118, 3) := by decide +kernel
theorem d_Mo_clear_9 : decode (mB m_Mo_clear) 9 = .ok (.istore_n 1, 1) := by decide +kernel
theorem d_Mo_clear_10 : decode (mB m_Mo_clear) 10 = .ok (.aload_n 0, 1) := by decide +kernel
theorem d_Mo_clear_11 : decode (mB m_Mo_clear) 11 = .ok (.iconst 0, 1) := by decide +kernel
theorem d_Mo_clear_12 : decode (mB m_Mo_clear) 12 = .ok (.putfield 118, 3) := by decide +kernel
theorem d_Mo_clear_15 : decode (mB m_Mo_clear) 15 = .ok (.iload_n 1, 1) := by decide +kernel
theorem d_Mo_clear_16 : decode (mB m_Mo_clear) 16 = .ok (.ireturn, 1) := by decide +kernel
theorem d_Mo_finish_0 : decode (mB m_Mo_finish) 0 = .ok (.aload_n 0, 1) := by decide +kernel
theorem d_Mo_finish_1 : decode (mB m_Mo_finish) 1 = .ok (.dup, 1) := by decide +kernel
theorem d_Mo_finish_2 : decode (mB m_Mo_finish) 2 = .ok (.getfield 121, 3) := by decide +kernel
theorem d_Mo_finish_5 : decode (mB m_Mo_finish) 5 = .ok (.iconst 1, 1) := by decide +kernel
theorem d_Mo_finish_6 : decode (mB m_Mo_finish) 6 = .ok (.isub, 1) := by decide +kernel
theorem d_Mo_finish_7 : decode (mB m_Mo_finish) 7 = .ok (.putfield 121, 3) := by decide +kernel
theorem d_Mo_finish_10 : decode (mB m_Mo_finish) 10 = .ok (.aload_n 0, 1) := by decide +kernel
theorem d_Mo_finish_11 : decode (mB m_Mo_finish) 11 = .ok (.getfield 121, 3) := by decide +kernel
theorem d_Mo_finish_14 : decode (mB m_Mo_finish) 14 = .ok (.ifCond .le 58, 3) := by decide +kernel
theorem d_Mo_finish_17 : decode (mB m_Mo_finish) 17 = .ok (.aload_n 0, 1) := by decide +kernel
theorem d_Mo_finish_18 : decode (mB m_Mo_finish) 18 = .ok (.getfield 30, 3) := by decide +kernel
theorem d_Mo_finish_21 : decode (mB m_Mo_finish) 21 = .ok (.aload_n 0, 1) := by decide +kernel
theorem d_Mo_finish_22 : decode (mB m_Mo_finish) 22 = .ok (.getfield 63, 3) := by decide +kernel
theorem d_Mo_finish_25 : decode (mB m_Mo_finish) 25 = .ok (.aload_n 0, 1) := by decide +kernel
theorem d_Mo_finish_26 : decode (mB m_Mo_finish) 26 = .ok (.getfield 121, 3) := by decide +kernel
theorem d_Mo_finish_29 : decode (mB m_Mo_finish) 29 = .ok (.iconst 1, 1) := by decide +kernel
theorem d_Mo_finish_30 : decode (mB m_Mo_finish) 30 = .ok (.isub, 1) := by decide +kernel
theorem d_Mo_finish_31 : decode (mB m_Mo_finish) 31 = .ok (.iaload, 1) := by decide +kernel
theorem d_Mo_finish_32 : decode (mB m_Mo_finish) 32 = .ok (.iaload, 1) := by decide +kernel
theorem d_Mo_finish_33 : decode (mB m_Mo_finish) 33 = .ok (.bipush 42, 2) := by decide +kernel
theorem d_Mo_finish_35 : decode (mB m_Mo_finish) 35 = .ok (.if_icmp .eq 24, 3) := by decide +kernel
theorem d_Mo_finish_38 : decode (mB m_Mo_finish) 38 = .ok (.aload_n 0, 1) := by decide +kernel
theorem d_Mo_finish_39 : decode (mB m_Mo_finish) 39 = .ok (.getfield 30, 3) := by decide +kernel
theorem d_Mo_finish_42 : decode (mB m_Mo_finish) 42 = .ok (.aload_n 0, 1) := by decide +kernel
theorem d_Mo_finish_43 : decode (mB m_Mo_finish) 43 = .ok (.getfield 63, 3) := by decide +kernel
theorem d_Mo_finish_46 : decode (mB m_Mo_finish) 46 = .ok (.aload_n 0, 1) := by decide +kernel
theorem d_Mo_finish_47 : decode (mB m_Mo_finish) 47 = .ok (.getfield 121, 3) := by decide +kernel
theorem d_Mo_finish_50 : decode (mB m_Mo_finish) 50 = .ok (.iconst 1, 1) := by decide +kernel
theorem d_Mo_finish_51 : decode (mB m_Mo_finish) 51 = .ok (.isub, 1) := by decide +kernel
theorem d_Mo_finish_52 : decode (mB m_Mo_finish) 52 = .ok (.iaload, 1) := by decide +kernel
theorem d_Mo_finish_53 : decode (mB m_Mo_finish) 53 = .ok (.iaload, 1) := by decide +kernel
theorem d_Mo_finish_54 : decode (mB m_Mo_finish) 54 = .ok (.bipush 47, 2) := by decide +kernel
theorem d_Mo_finish_56 : decode (mB m_Mo_finish) 56 = .ok (.if_icmp .ne 16, 3) := by decide +kernel
theorem d_Mo_finish_59 : decode (mB m_Mo_finish) 59 = .ok (.aload_n 0, 1) := by decide +kernel
theorem d_Mo_finish_60 : decode (mB m_Mo_finish) 60 = .ok (.dup, 1) := by decide +kernel
theorem d_Mo_finish_61 : decode (mB m_Mo_finish) 61 = .ok (.getfield 121, 3) := by decide +kernel
theorem d_Mo_finish_64 : decode (mB m_Mo_finish) 64 = .ok (.iconst 1, 1) := by decide +kernel
theorem d_Mo_finish_65 : decode (mB m_Mo_finish) 65 = .ok (.isub, 1) := by decide +kernel
theorem d_Mo_finish_66 : decode (mB m_Mo_finish) 66 = .ok (.putfield 121, 3) := by decide +kernel
theorem d_Mo_finish_69 : decode (mB m_Mo_finish) 69 = .ok (.goto (-59), 3) := by decide +kernel
theorem d_Mo_finish_72 : decode (mB m_Mo_finish) 72 = .ok (.aload_n 0, 1) := by decide +kernel
theorem d_Mo_finish_73 : decode (mB m_Mo_finish) 73 = .ok (.getfield 121, 3) := by decide +kernel
theorem d_Mo_finish_76 : decode (mB m_Mo_finish) 76 = .ok (.ifCond .le 40, 3) := by decide +kernel
theorem d_Mo_finish_79 : decode (mB m_Mo_finish) 79 = .ok (.aload_n 0, 1) := by decide +kernel
theorem d_Mo_finish_80 : decode (mB m_Mo_finish) 80 = .ok (.getfield 66, 3) := by decide +kernel
theorem d_Mo_finish_83 : decode (mB m_Mo_finish) 83 = .ok (.aload_n 0, 1) := by decide +kernel
theorem d_Mo_finish_84 : decode (mB m_Mo_finish) 84 = .ok (.getfield 121, 3) := by decide +kernel
theorem d_Mo_finish_87 : decode (mB m_Mo_finish) 87 = .ok (.iconst 1, 1) := by decide +kernel
theorem d_Mo_finish_88 : decode (mB m_Mo_finish) 88 = .ok (.isub, 1) := by decide +kernel
theorem d_Mo_finish_89 : decode (mB m_Mo_finish) 89 = .ok (.aload_n 0, 1) := by decide +kernel
theorem d_Mo_finish_90 : decode (mB m_Mo_finish) 90 = .ok (.getfield 30, 3) := by decide +kernel
theorem d_Mo_finish_93 : decode (mB m_Mo_finish) 93 = .ok (.aload_n 0, 1) := by decide +kernel
theorem d_Mo_finish_94 : decode (mB m_Mo_finish) 94 = .ok (.getfield 63, 3) := by decide +kernel
theorem d_Mo_finish_97 : decode (mB m_Mo_finish) 97 = .ok (.aload_n 0, 1) := by decide +kernel
theorem d_Mo_finish_98 : decode (mB m_Mo_finish) 98 = .ok (.getfield 121, 3) := by decide +kernel
theorem d_Mo_finish_101 : decode (mB m_Mo_finish) 101 = .ok (.iconst 1, 1) := by decide +kernel
theorem d_Mo_finish_102 : decode (mB m_Mo_finish) 102 = .ok (.isub, 1) := by decide +kernel
theorem d_Mo_finish_103 : decode (mB m_Mo_finish) 103 = .ok (.iaload, 1) := by decide +kernel
theorem d_Mo_finish_104 : decode (mB m_Mo_finish) 104 = .ok (.iaload, 1) := by decide +kernel
theorem d_Mo_finish_105 : decode (mB m_Mo_finish) 105 = .ok (.bipush 123, 2) := by decide +kernel
theorem d_Mo_finish_107 : decode (mB m_Mo_finish) 107 = .ok (.if_icmp .ne 7, 3) := by decide +kernel
theorem d_Mo_finish_110 : decode (mB m_Mo_finish) 110 = .ok (.iconst 3, 1) := by decide +kernel
theorem d_Mo_finish_111 : decode (mB m_Mo_finish) 111 = .ok (.goto 4, 3) := by decide +kernel
theorem d_Mo_finish_114 : decode (mB m_Mo_finish) 114 = .ok (.iconst 5, 1) := by decide +kernel
theorem d_Mo_finish_115 : decode (mB m_Mo_finish) 115 = .ok (.iastore, 1) := by decide +kernel
theorem d_Mo_finish_116 : decode (mB m_Mo_finish) 116 = .ok (.return_, 1) := by decide +kernel
theorem d_Mo_beginType_0 : decode (mB m_Mo_beginType) 0 = .ok (.iload_n 1, 1) := by decide +kernel
theorem d_Mo_beginType_1 : decode (mB m_Mo_beginType) 1 = .ok (.bipush 102, 2) := by decide +kernel
theorem d_Mo_beginType_3 : decode (mB m_Mo_beginType) 3 = .ok (.if_icmp .eq 21, 3) := by decide +kernel
theorem d_Mo_beginType_6 : decode (mB m_Mo_beginType) 6 = .ok (.iload_n 1, 1) := by decide +kernel
theorem d_Mo_beginType_7 : decode (mB m_Mo_beginType) 7 = .ok (.bipush 100, 2) := by decide +kernel
theorem d_Mo_beginType_9 : decode (mB m_Mo_beginType) 9 = .ok (.if_icmp .eq 15, 3) := by decide +kernel
theorem d_Mo_beginType_12 : decode (mB m_Mo_beginType) 12 = .ok (.iload_n 1, 1) := by decide +kernel
theorem d_Mo_beginType_13 : decode (mB m_Mo_beginType) 13 = .ok (.bipush 122, 2) := by decide +kernel
theorem d_Mo_beginType_15 : decode (mB m_Mo_beginType) 15 = .ok (.if_icmp .eq 9, 3) := by decide +kernel
theorem d_Mo_beginType_18 : decode (mB m_Mo_beginType) 18 = .ok (.iload_n 1, 1) := by decide +kernel
theorem d_Mo_beginType_19 : decode (mB m_Mo_beginType) 19 = .ok (.bipush 114, 2) := by decide +kernel
theorem d_Mo_beginType_21 : decode (mB m_Mo_beginType) 21 = .ok (.if_icmp .ne 7, 3) := by decide +kernel
theorem d_Mo_beginType_24 : decode (mB m_Mo_beginType) 24 = .ok (.iconst 1, 1) := by decide +kernel
theorem d_Mo_beginType_25 : decode (mB m_Mo_beginType) 25 = .ok (.goto 4, 3) := by decide +kernel
theorem d_Mo_beginType_28 : decode (mB m_Mo_beginType) 28 = .ok (.iconst 0, 1) := by decide +kernel
theorem d_Mo_beginType_29 : decode (mB m_Mo_beginType) 29 = .ok (.istore_n 2, 1) := by decide +kernel
theorem d_Mo_beginType_30 : decode (mB m_Mo_beginType) 30 = .ok (.iload_n 1, 1) := by decide +kernel
theorem d_Mo_beginType_31 : decode (mB m_Mo_beginType) 31 = .ok (.bipush 42, 2) := by decide +kernel
theorem d_Mo_beginType_33 : decode (mB m_Mo_beginType) 33 = .ok (.if_icmp .eq 15, 3) := by decide +kernel
theorem d_Mo_beginType_36 : decode (mB m_Mo_beginType) 36 = .ok (.iload_n 1, 1) := by decide +kernel
theorem d_Mo_beginType_37 : decode (mB m_Mo_beginType) 37 = .ok (.bipush 47, 2) := by decide +kernel
theorem d_Mo_beginType_39 : decode (mB m_Mo_beginType) 39 = .ok (.if_icmp .eq 9, 3) := by decide +kernel
theorem d_Mo_beginType_42 : decode (mB m_Mo_beginType) 42 = .ok (.iload_n 1, 1) := by decide +kernel
theorem d_Mo_beginType_43 : decode (mB m_Mo_beginType) 43 = .ok (.bipush 63, 2) := by decide +kernel
theorem d_Mo_beginType_45 : decode (mB m_Mo_beginType) 45 = .ok (.if_icmp .ne 7, 3) := by decide +kernel
theorem d_Mo_beginType_48 : decode (mB m_Mo_beginType) 48 = .ok (.iconst 1, 1) := by decide +kernel
theorem d_Mo_beginType_49 : decode (mB m_Mo_beginType) 49 = .ok (.goto 4, 3) := by decide +kernel
theorem d_Mo_beginType_52 : decode (mB m_Mo_beginType) 52 = .ok (.iconst 0, 1) := by decide +kernel
theorem d_Mo_beginType_53 : decode (mB m_Mo_beginType) 53 = .ok (.istore_n 3, 1) := by decide +kernel
theorem d_Mo_beginType_54 : decode (mB m_Mo_beginType) 54 = .ok (.iload_n 2, 1) := by decide +kernel
theorem d_Mo_beginType_55 : decode (mB m_Mo_beginType) 55 = .ok (.ifCond .ne 21, 3) := by decide +kernel
theorem d_Mo_beginType_58 : decode (mB m_Mo_beginType) 58 = .ok (.iload_n 3, 1) := by decide +kernel
theorem d_Mo_beginType_59 : decode (mB m_Mo_beginType) 59 = .ok (.ifCond .ne 17, 3) := by decide +kernel
theorem d_Mo_beginType_62 : decode (mB m_Mo_beginType) 62 = .ok (.aload_n 0, 1) := by decide +kernel
theorem d_Mo_beginType_63 : decode (mB m_Mo_beginType) 63 = .ok (.iload_n 1, 1) := by decide +kernel
theorem d_Mo_beginType_64 : decode (mB m_Mo_beginType) 64 = .ok (.invokevirtual 124, 3) := by decide +kernel
theorem d_Mo_beginType_67 : decode (mB m_Mo_beginType) 67 = .ok (.ifCond .ne 9, 3) := by decide +kernel
theorem d_Mo_beginType_70 : decode (mB m_Mo_beginType) 70 = .ok (.iload_n 1, 1) := by decide +kernel
theorem d_Mo_beginType_71 : decode (mB m_Mo_beginType) 71 = .ok (.bipush 123, 2) := by decide +kernel
theorem d_Mo_beginType_73 : decode (mB m_Mo_beginType) 73 = .ok (.if_icmp .ne 23, 3) := by decide +kernel
theorem d_Mo_beginType_76 : decode (mB m_Mo_beginType) 76 = .ok (.aload_n 0, 1) := by decide +kernel
theorem d_Mo_beginType_77 : decode (mB m_Mo_beginType) 77 = .ok (.getfield 121, 3) := by decide +kernel
theorem d_Mo_beginType_80 : decode (mB m_Mo_beginType) 80 = .ok (.iconst 5, 1) := by decide +kernel
theorem d_Mo_beginType_81 : decode (mB m_Mo_beginType) 81 = .ok (.if_icmp .eq 15, 3) := by decide +kernel
theorem d_Mo_beginType_84 : decode (mB m_Mo_beginType) 84 = .ok (.iload_n 3, 1) := by decide +kernel
theorem d_Mo_beginType_85 : decode (mB m_Mo_beginType) 85 = .ok (.ifCond .eq 13, 3) := by decide +kernel
theorem d_Mo_beginType_88 : decode (mB m_Mo_beginType) 88 = .ok (.aload_n 0, 1) := by decide +kernel
theorem d_Mo_beginType_89 : decode (mB m_Mo_beginType) 89 = .ok (.getfield 121, 3) := by decide +kernel
theorem d_Mo_beginType_92 : decode (mB m_Mo_beginType) 92 = .ok (.iconst 4, 1) := by decide +kernel
theorem d_Mo_beginType_93 : decode (mB m_Mo_beginType) 93 = .ok (.if_icmp .ne 5, 3) := by decide +kernel
theorem d_Mo_beginType_96 : decode (mB m_Mo_beginType) 96 = .ok (.iconst 0, 1) := by decide +kernel
theorem d_Mo_beginType_97 : decode (mB m_Mo_beginType) 97 = .ok (.ireturn, 1) := by decide +kernel
theorem d_Mo_beginType_98 : decode (mB m_Mo_beginType) 98 = .ok (.aload_n 0, 1) := by decide +kernel
theorem d_Mo_beginType_99 : decode (mB m_Mo_beginType) 99 = .ok (.getfield 128, 3) := by decide +kernel
theorem d_Mo_beginType_102 : decode (mB m_Mo_beginType) 102 = .ok (.istore 4, 2) := by decide +kernel
theorem d_Mo_beginType_104 : decode (mB m_Mo_beginType) 104 = .ok (.aload_n 0, 1) := by decide +kernel
theorem d_Mo_beginType_105 : decode (mB m_Mo_beginType) 105 = .ok (.dup, 1) := by decide +kernel
theorem d_Mo_beginType_106 : decode (mB m_Mo_beginType) 106 = .ok (.getfield 128, 3) := by decide +kernel
theorem d_Mo_beginType_109 : decode (mB m_Mo_beginType) 109 = .ok (.iconst 1, 1) := by decide +kernel
theorem d_Mo_beginType_110 : decode (mB m_Mo_beginType) 110 = .ok (.iadd, 1) := by decide +kernel
theorem d_Mo_beginType_111 : decode (mB m_Mo_beginType) 111 = .ok (.putfield 128, 3) := by decide +kernel
theorem d_Mo_beginType_114 : decode (mB m_Mo_beginType) 114 = .ok (.aload_n 0, 1) := by decide +kernel
theorem d_Mo_beginType_115 : decode (mB m_Mo_beginType) 115 = .ok (.getfield 30, 3) := by decide +kernel
theorem d_Mo_beginType_118 : decode (mB m_Mo_beginType) 118 = .ok (.iload 4, 2) := by decide +kernel
theorem d_Mo_beginType_120 : decode (mB m_Mo_beginType) 120 = .ok (.iload_n 1, 1) := by decide +kernel
theorem d_Mo_beginType_121 : decode (mB m_Mo_beginType) 121 = .ok (.iastore, 1) := by decide +kernel
theorem d_Mo_beginType_122 : decode (mB m_Mo_beginType) 122 = .ok (.aload_n 0, 1) := by decide +kernel
theorem d_Mo_beginType_123 : decode (mB m_Mo_beginType) 123 = .ok (.getfield 36, 3) := by decide +kernel
theorem d_Mo_beginType_126 : decode (mB m_Mo_beginType) 126 = .ok (.iload 4, 2) := by decide +kernel
theorem d_Mo_beginType_128 : decode (mB m_Mo_beginType) 128 = .ok (.iconst 0, 1) := by decide +kernel
theorem d_Mo_beginType_129 : decode (mB m_Mo_beginType) 129 = .ok (.iastore, 1) := by decide +kernel
theorem d_Mo_beginType_130 : decode (mB m_Mo_beginType) 130 = .ok (.aload_n 0, 1) := by decide +kernel
theorem d_Mo_beginType_131 : decode (mB m_Mo_beginType) 131 = .ok (.getfield 39, 3) := by decide +kernel
theorem d_Mo_beginType_134 : decode (mB m_Mo_beginType) 134 = .ok (.iload 4, 2) := by decide +kernel
theorem d_Mo_beginType_136 : decode (mB m_Mo_beginType) 136 = .ok (.iconst 0, 1) := by decide +kernel
theorem d_Mo_beginType_137 : decode (mB m_Mo_beginType) 137 = .ok (.iastore, 1) := by decide +kernel
theorem d_Mo_beginType_138 : decode (mB m_Mo_beginType) 138 = .ok (.aload_n 0, 1) := by decide +kernel
theorem d_Mo_beginType_139 : decode (mB m_Mo_beginType) 139 = .ok (.getfield 54, 3) := by decide +kernel
theorem d_Mo_beginType_142 : decode (mB m_Mo_beginType) 142 = .ok (.iload 4, 2) := by decide +kernel
theorem d_Mo_beginType_144 : decode (mB m_Mo_beginType) 144 = .ok (.iconst (-1), 1) := by decide +kernel
theorem d_Mo_beginType_145 : decode (mB m_Mo_beginType) 145 = .ok (.iastore, 1) := by decide +kernel
theorem d_Mo_beginType_146 : decode (mB m_Mo_beginType) 146 = .ok (.aload_n 0, 1) := by decide +kernel
theorem d_Mo_beginType_147 : decode (mB m_Mo_beginType) 147 = .ok (.getfield 57, 3) := by decide +kernel
theorem d_Mo_beginType_150 : decode (mB m_Mo_beginType) 150 = .ok (.iload 4, 2) := by decide +kernel
theorem d_Mo_beginType_152 : decode (mB m_Mo_beginType) 152 = .ok (.iconst (-1), 1) := by decide +kernel
theorem d_Mo_beginType_153 : decode (mB m_Mo_beginType) 153 = .ok (.iastore, 1) := by decide +kernel
theorem d_Mo_beginType_154 : decode (mB m_Mo_beginType) 154 = .ok (.aload_n 0, 1) := by decide +kernel
theorem d_Mo_beginType_155 : decode (mB m_Mo_beginType) 155 = .ok (.getfield 60, 3) := by decide +kernel
theorem d_Mo_beginType_158 : decode (mB m_Mo_beginType) 158 = .ok (.iload 4, 2) := by decide +kernel
theorem d_Mo_beginType_160 : decode (mB m_Mo_beginType) 160 = .ok (.iconst (-1), 1) := by decide +kernel
theorem d_Mo_beginType_161 : decode (mB m_Mo_beginType) 161 = .ok (.iastore, 1) := by decide +kernel
theorem d_Mo_beginType_162 : decode (mB m_Mo_beginType) 162 = .ok (.aload_n 0, 1) := by decide +kernel
theorem d_Mo_beginType_163 : decode (mB m_Mo_beginType) 163 = .ok (.getfield 45, 3) := by decide +kernel
theorem d_Mo_beginType_166 : decode (mB m_Mo_beginType) 166 = .ok (.iload 4, 2) := by decide +kernel
theorem d_Mo_beginType_168 : decode (mB m_Mo_beginType) 168 = .ok (.iconst (-1), 1) := by decide +kernel
theorem d_Mo_beginType_169 : decode (mB m_Mo_beginType) 169 = .ok (.iastore, 1) := by decide +kernel
theorem d_Mo_beginType_170 : decode (mB m_Mo_beginType) 170 = .ok (.aload_n 0, 1) := by decide +kernel
theorem d_Mo_beginType_171 : decode (mB m_Mo_beginType) 171 = .ok (.getfield 48, 3) := by decide +kernel
theorem d_Mo_beginType_174 : decode (mB m_Mo_beginType) 174 = .ok (.iload 4, 2) := by decide +kernel
theorem d_Mo_beginType_176 : decode (mB m_Mo_beginType) 176 = .ok (.iconst (-1), 1) := by decide +kernel
theorem d_Mo_beginType_177 : decode (mB m_Mo_beginType) 177 = .ok (.iastore, 1) := by decide +kernel
theorem d_Mo_beginType_178 : decode (mB m_Mo_beginType) 178 = .ok (.aload_n 0, 1) := by decide +kernel
theorem d_Mo_beginType_179 : decode (mB m_Mo_beginType) 179 = .ok (.getfield 51, 3) := by decide +kernel
theorem d_Mo_beginType_182 : decode (mB m_Mo_beginType) 182 = .ok (.iload 4, 2) := by decide +kernel
theorem d_Mo_beginType_184 : decode (mB m_Mo_beginType) 184 = .ok (.aload_n 0, 1) := by decide +kernel
theorem d_Mo_beginType_185 : decode (mB m_Mo_beginType) 185 = .ok (.getfield 121, 3) := by decide +kernel
theorem d_Mo_beginType_188 : decode (mB m_Mo_beginType) 188 = .ok (.ifCond .le 17, 3) := by decide +kernel
theorem d_Mo_beginType_191 : decode (mB m_Mo_beginType) 191 = .ok (.aload_n 0, 1) := by decide +kernel
theorem d_Mo_beginType_192 : decode (mB m_Mo_beginType) 192 = .ok (.getfield 63, 3) := by decide +kernel
theorem d_Mo_beginType_195 : decode (mB m_Mo_beginType) 195 = .ok (.aload_n 0, 1) := by decide +kernel
theorem d_Mo_beginType_196 : decode (mB m_Mo_beginType) 196 = .ok (.getfield 121, 3) := by decide +kernel
theorem d_Mo_beginType_199 : decode (mB m_Mo_beginType) 199 = .ok (.iconst 1, 1) := by decide +kernel
theorem d_Mo_beginType_200 : decode (mB m_Mo_beginType) 200 = .ok (.isub, 1) := by decide +kernel
theorem d_Mo_beginType_201 : decode (mB m_Mo_beginType) 201 = .ok (.iaload, 1) := by decide +kernel
theorem d_Mo_beginType_202 : decode (mB m_Mo_beginType) 202 = .ok (.goto 4, 3) := by decide +kernel
theorem d_Mo_beginType_205 : decode (mB m_Mo_beginType) 205 = .ok (.iconst (-1), 1) := by decide +kernel
theorem d_Mo_beginType_206 : decode (mB m_Mo_beginType) 206 = .ok (.iastore, 1) := by decide +kernel
theorem d_Mo_beginType_207 : decode (mB m_Mo_beginType) 207 = .ok (.aload_n 0, 1) := by decide +kernel
theorem d_Mo_beginType_208 : decode (mB m_Mo_beginType) 208 = .ok (.getfield 121, 3) := by decide +kernel
theorem d_Mo_beginType_211 : decode (mB m_Mo_beginType) 211 = .ok (.ifCond .le 16, 3) := by decide +kernel
theorem d_Mo_beginType_214 : decode (mB m_Mo_beginType) 214 = .ok (.aload_n 0, 1) := by decide +kernel
theorem d_Mo_beginType_215 : decode (mB m_Mo_beginType) 215 = .ok (.iload 4, 2) := by decide +kernel
theorem d_Mo_beginType_217 : decode (mB m_Mo_beginType) 217 = .ok (.aload_n 0, 1) := by decide +kernel
theorem d_Mo_beginType_218 : decode (mB m_Mo_beginType) 218 = .ok (.getfield 51, 3) := by decide +kernel
theorem d_Mo_beginType_221 : decode (mB m_Mo_beginType) 221 = .ok (.iload 4, 2) := by decide +kernel
theorem d_Mo_beginType_223 : decode (mB m_Mo_beginType) 223 = .ok (.iaload, 1) := by decide +kernel
theorem d_Mo_beginType_224 : decode (mB m_Mo_beginType) 224 = .ok (.invokevirtual 131, 3) := by decide +kernel
theorem d_Mo_beginType_227 : decode (mB m_Mo_beginType) 227 = .ok (.aload_n 0, 1) := by decide +kernel
theorem d_Mo_beginType_228 : decode (mB m_Mo_beginType) 228 = .ok (.getfield 63, 3) := by decide +kernel
theorem d_Mo_beginType_231 : decode (mB m_Mo_beginType) 231 = .ok (.aload_n 0, 1) := by decide +kernel
theorem d_Mo_beginType_232 : decode (mB m_Mo_beginType) 232 = .ok (.getfield 121, 3) := by decide +kernel
theorem d_Mo_beginType_235 : decode (mB m_Mo_beginType) 235 = .ok (.iload 4, 2) := by decide +kernel
theorem d_Mo_beginType_237 : decode (mB m_Mo_beginType) 237 = .ok (.iastore, 1) := by decide +kernel
theorem d_Mo_beginType_238 : decode (mB m_Mo_beginType) 238 = .ok (.aload_n 0, 1) := by decide +kernel
theorem d_Mo_beginType_239 : decode (mB m_Mo_beginType) 239 = .ok (.getfield 66, 3) := by decide +kernel
theorem d_Mo_beginType_242 : decode (mB m_Mo_beginType) 242 = .ok (.aload_n 0, 1) := by decide +kernel
theorem d_Mo_beginType_243 : decode (mB m_Mo_beginType) 243 = .ok (.getfield 121, 3) := by decide +kernel
theorem d_Mo_beginType_246 : decode (mB m_Mo_beginType) 246 = .ok (.iconst 0, 1) := by decide +kernel
theorem d_Mo_beginType_247 : decode (mB m_Mo_beginType) 247 = .ok (.iastore, 1) := by decide +kernel
theorem d_Mo_beginType_248 : decode (mB m_Mo_beginType) 248 = .ok (.aload_n 0, 1) := by decide +kernel
theorem d_Mo_beginType_249 : decode (mB m_Mo_beginType) 249 = .ok (.dup, 1) := by decide +kernel
theorem d_Mo_beginType_250 : decode (mB m_Mo_beginType) 250 = .ok (.getfield 121, 3) := by decide +kernel
theorem d_Mo_beginType_253 : decode (mB m_Mo_beginType) 253 = .ok (.iconst 1, 1) := by decide +kernel
theorem d_Mo_beginType_254 : decode (mB m_Mo_beginType) 254 = .ok (.iadd, 1) := by decide +kernel
theorem d_Mo_beginType_255 : decode (mB m_Mo_beginType) 255 = .ok (.putfield 121, 3) := by decide +kernel
theorem d_Mo_beginType_258 : decode (mB m_Mo_beginType) 258 = .ok (.iload_n 2, 1) := by decide +kernel
theorem d_Mo_beginType_259 : decode (mB m_Mo_beginType) 259 = .ok (.ifCond .eq 7, 3) := by decide +kernel
theorem d_Mo_beginType_262 : decode (mB m_Mo_beginType) 262 = .ok (.aload_n 0, 1) := by decide +kernel
theorem d_Mo_beginType_263 : decode (mB m_Mo_beginType) 263 = .ok (.invokevirtual 135, 3) := by decide +kernel
theorem d_Mo_beginType_266 : decode (mB m_Mo_beginType) 266 = .ok (.iconst 1, 1) := by decide +kernel
theorem d_Mo_beginType_267 : decode (mB m_Mo_beginType) 267 = .ok (.ireturn, 1) := by decide +kernel
theorem d_Mo_hang_0 : decode (mB m_Mo_hang) 0 = .ok (.aload_n 0, 1) := by decide +kernel
theorem d_Mo_hang_1 : decode (mB m_Mo_hang) 1 = .ok (.getfield 30, 3) := by decide +kernel
theorem d_Mo_hang_4 : decode (mB m_Mo_hang) 4 = .ok (.iload_n 2, 1) := by decide +kernel
theorem d_Mo_hang_5 : decode (mB m_Mo_hang) 5 = .ok (.iaload, 1) := by decide +kernel
theorem d_Mo_hang_6 : decode (mB m_Mo_hang) 6 = .ok (.bipush 123, 2) := by decide +kernel
theorem d_Mo_hang_8 : decode (mB m_Mo_hang) 8 = .ok (.if_icmp .ne 20, 3) := by decide +kernel
theorem d_Mo_hang_11 : decode (mB m_Mo_hang) 11 = .ok (.aload_n 0, 1) := by decide +kernel
theorem d_Mo_hang_12 : decode (mB m_Mo_hang) 12 = .ok (.getfield 45, 3) := by decide +kernel
theorem d_Mo_hang_15 : decode (mB m_Mo_hang) 15 = .ok (.iload_n 1, 1) := by decide +kernel
theorem d_Mo_hang_16 : decode (mB m_Mo_hang) 16 = .ok (.aload_n 0, 1) := by decide +kernel
theorem d_Mo_hang_17 : decode (mB m_Mo_hang) 17 = .ok (.getfield 72, 3) := by decide +kernel
theorem d_Mo_hang_20 : decode (mB m_Mo_hang) 20 = .ok (.aload_n 0, 1) := by decide +kernel
theorem d_Mo_hang_21 : decode (mB m_Mo_hang) 21 = .ok (.getfield 121, 3) := by decide +kernel
theorem d_Mo_hang_24 : decode (mB m_Mo_hang) 24 = .ok (.iconst 1, 1) := by decide +kernel
theorem d_Mo_hang_25 : decode (mB m_Mo_hang) 25 = .ok (.isub, 1) := by decide +kernel
theorem d_Mo_hang_26 : decode (mB m_Mo_hang) 26 = .ok (.iaload, 1) := by decide +kernel
theorem d_Mo_hang_27 : decode (mB m_Mo_hang) 27 = .ok (.iastore, 1) := by decide +kernel
theorem d_Mo_hang_28 : decode (mB m_Mo_hang) 28 = .ok (.aload_n 0, 1) := by decide +kernel
theorem d_Mo_hang_29 : decode (mB m_Mo_hang) 29 = .ok (.getfield 30, 3) := by decide +kernel
theorem d_Mo_hang_32 : decode (mB m_Mo_hang) 32 = .ok (.iload_n 2, 1) := by decide +kernel
theorem d_Mo_hang_33 : decode (mB m_Mo_hang) 33 = .ok (.iaload, 1) := by decide +kernel
theorem d_Mo_hang_34 : decode (mB m_Mo_hang) 34 = .ok (.bipush 63, 2) := by decide +kernel
theorem d_Mo_hang_36 : decode (mB m_Mo_hang) 36 = .ok (.if_icmp .ne 20, 3) := by decide +kernel
theorem d_Mo_hang_39 : decode (mB m_Mo_hang) 39 = .ok (.aload_n 0, 1) := by decide +kernel
theorem d_Mo_hang_40 : decode (mB m_Mo_hang) 40 = .ok (.getfield 48, 3) := by decide +kernel
theorem d_Mo_hang_43 : decode (mB m_Mo_hang) 43 = .ok (.iload_n 1, 1) := by decide +kernel
theorem d_Mo_hang_44 : decode (mB m_Mo_hang) 44 = .ok (.aload_n 0, 1) := by decide +kernel
theorem d_Mo_hang_45 : decode (mB m_Mo_hang) 45 = .ok (.getfield 72, 3) := by decide +kernel
theorem d_Mo_hang_48 : decode (mB m_Mo_hang) 48 = .ok (.aload_n 0, 1) := by decide +kernel
theorem d_Mo_hang_49 : decode (mB m_Mo_hang) 49 = .ok (.getfield 121, 3) := by decide +kernel
theorem d_Mo_hang_52 : decode (mB m_Mo_hang) 52 = .ok (.iconst 1, 1) := by decide +kernel
theorem d_Mo_hang_53 : decode (mB m_Mo_hang) 53 = .ok (.isub, 1) := by decide +kernel
theorem d_Mo_hang_54 : decode (mB m_Mo_hang) 54 = .ok (.iaload, 1) := by decide +kernel
theorem d_Mo_hang_55 : decode (mB m_Mo_hang) 55 = .ok (.iastore, 1) := by decide +kernel
theorem d_Mo_hang_56 : decode (mB m_Mo_hang) 56 = .ok (.aload_n 0, 1) := by decide +kernel
theorem d_Mo_hang_57 : decode (mB m_Mo_hang) 57 = .ok (.getfield 54, 3) := by decide +kernel
theorem d_Mo_hang_60 : decode (mB m_Mo_hang) 60 = .ok (.iload_n 2, 1) := by decide +kernel
theorem d_Mo_hang_61 : decode (mB m_Mo_hang) 61 = .ok (.iaload, 1) := by decide +kernel
theorem d_Mo_hang_62 : decode (mB m_Mo_hang) 62 = .ok (.ifCond .ge 11, 3) := by decide +kernel
theorem d_Mo_hang_65 : decode (mB m_Mo_hang) 65 = .ok (.aload_n 0, 1) := by decide +kernel
theorem d_Mo_hang_66 : decode (mB m_Mo_hang) 66 = .ok (.getfield 54, 3) := by decide +kernel
theorem d_Mo_hang_69 : decode (mB m_Mo_hang) 69 = .ok (.iload_n 2, 1) := by decide +kernel
theorem d_Mo_hang_70 : decode (mB m_Mo_hang) 70 = .ok (.iload_n 1, 1) := by decide +kernel
theorem d_Mo_hang_71 : decode (mB m_Mo_hang) 71 = .ok (.iastore, 1) := by decide +kernel
theorem d_Mo_hang_72 : decode (mB m_Mo_hang) 72 = .ok (.return_, 1) := by decide +kernel
theorem d_Mo_hang_73 : decode (mB m_Mo_hang) 73 = .ok (.aload_n 0, 1) := by decide +kernel
theorem d_Mo_hang_74 : decode (mB m_Mo_hang) 74 = .ok (.getfield 54, 3) := by decide +kernel
theorem d_Mo_hang_77 : decode (mB m_Mo_hang) 77 = .ok (.iload_n 2, 1) := by decide +kernel
theorem d_Mo_hang_78 : decode (mB m_Mo_hang) 78 = .ok (.iaload, 1) := by decide +kernel
theorem d_Mo_hang_79 : decode (mB m_Mo_hang) 79 = .ok (.istore_n 3, 1) := by decide +kernel
theorem d_Mo_hang_80 : decode (mB m_Mo_hang) 80 = .ok (.aload_n 0, 1) := by decide +kernel
theorem d_Mo_hang_81 : decode (mB m_Mo_hang) 81 = .ok (.getfield 57, 3) := by decide +kernel
theorem d_Mo_hang_84 : decode (mB m_Mo_hang) 84 = .ok (.iload_n 3, 1) := by decide +kernel
theorem d_Mo_hang_85 : decode (mB m_Mo_hang) 85 = .ok (.iaload, 1) := by decide +kernel
theorem d_Mo_hang_86 : decode (mB m_Mo_hang) 86 = .ok (.ifCond .lt 13, 3) := by decide +kernel
theorem d_Mo_hang_89 : decode (mB m_Mo_hang) 89 = .ok (.aload_n 0, 1) := by decide +kernel
theorem d_Mo_hang_90 : decode (mB m_Mo_hang) 90 = .ok (.getfield 57, 3) := by decide +kernel
theorem d_Mo_hang_93 : decode (mB m_Mo_hang) 93 = .ok (.iload_n 3, 1) := by decide +kernel
theorem d_Mo_hang_94 : decode (mB m_Mo_hang) 94 = .ok (.iaload, 1) := by decide +kernel
theorem d_Mo_hang_95 : decode (mB m_Mo_hang) 95 = .ok (.istore_n 3, 1) := by decide +kernel
theorem d_Mo_hang_96 : decode (mB m_Mo_hang) 96 = .ok (.goto (-16), 3) := by decide +kernel
theorem d_Mo_hang_99 : decode (mB m_Mo_hang) 99 = .ok (.aload_n 0, 1) := by decide +kernel
theorem d_Mo_hang_100 : decode (mB m_Mo_hang) 100 = .ok (.getfield 57, 3) := by decide +kernel
theorem d_Mo_hang_103 : decode (mB m_Mo_hang) 103 = .ok (.iload_n 3, 1) := by decide +kernel
theorem d_Mo_hang_104 : decode (mB m_Mo_hang) 104 = .ok (.iload_n 1, 1) := by decide +kernel
theorem d_Mo_hang_105 : decode (mB m_Mo_hang) 105 = .ok (.iastore, 1) := by decide +kernel
theorem d_Mo_hang_106 : decode (mB m_Mo_hang) 106 = .ok (.aload_n 0, 1) := by decide +kernel
theorem d_Mo_hang_107 : decode (mB m_Mo_hang) 107 = .ok (.getfield 60, 3) := by decide +kernel
theorem d_Mo_hang_110 : decode (mB m_Mo_hang) 110 = .ok (.iload_n 1, 1) := by decide +kernel
theorem d_Mo_hang_111 : decode (mB m_Mo_hang) 111 = .ok (.iload_n 3, 1) := by decide +kernel
theorem d_Mo_hang_112 : decode (mB m_Mo_hang) 112 = .ok (.iastore, 1) := by decide +kernel
theorem d_Mo_hang_113 : decode (mB m_Mo_hang) 113 = .ok (.return_, 1) := by decide +kernel
theorem d_Mo_isName_0 : decode (mB m_Mo_isName) 0 = .ok (.iload_n 1, 1) := by decide +kernel
theorem d_Mo_isName_1 : decode (mB m_Mo_isName) 1 = .ok (.bipush 97, 2) := by decide +kernel
theorem d_Mo_isName_3 : decode (mB m_Mo_isName) 3 = .ok (.if_icmp .lt 13, 3) := by decide +kernel
theorem d_Mo_isName_6 : decode (mB m_Mo_isName) 6 = .ok (.iload_n 1, 1) := by decide +kernel
theorem d_Mo_isName_7 : decode (mB m_Mo_isName) 7 = .ok (.bipush 108, 2) := by decide +kernel
theorem d_Mo_isName_9 : decode (mB m_Mo_isName) 9 = .ok (.if_icmp .gt 7, 3) := by decide +kernel
theorem d_Mo_isName_12 : decode (mB m_Mo_isName) 12 = .ok (.iconst 1, 1) := by decide +kernel
theorem d_Mo_isName_13 : decode (mB m_Mo_isName) 13 = .ok (.goto 4, 3) := by decide +kernel
theorem d_Mo_isName_16 : decode (mB m_Mo_isName) 16 = .ok (.iconst 0, 1) := by decide +kernel
theorem d_Mo_isName_17 : decode (mB m_Mo_isName) 17 = .ok (.ireturn, 1) := by decide +kernel
theorem d_Mo_inSized_0 : decode (mB m_Mo_inSized) 0 = .ok (.aload_n 0, 1) := by decide +kernel
theorem d_Mo_inSized_1 : decode (mB m_Mo_inSized) 1 = .ok (.getfield 121, 3) := by decide +kernel
theorem d_Mo_inSized_4 : decode (mB m_Mo_inSized) 4 = .ok (.iconst 1, 1) := by decide +kernel
theorem d_Mo_inSized_5 : decode (mB m_Mo_inSized) 5 = .ok (.isub, 1) := by decide +kernel
theorem d_Mo_inSized_6 : decode (mB m_Mo_inSized) 6 = .ok (.istore_n 2, 1) := by decide +kernel
theorem d_Mo_inSized_7 : decode (mB m_Mo_inSized) 7 = .ok (.aload_n 0, 1) := by decide +kernel
theorem d_Mo_inSized_8 : decode (mB m_Mo_inSized) 8 = .ok (.getfield 63, 3) := by decide +kernel
theorem d_Mo_inSized_11 : decode (mB m_Mo_inSized) 11 = .ok (.iload_n 2, 1) := by decide +kernel
theorem d_Mo_inSized_12 : decode (mB m_Mo_inSized) 12 = .ok (.iaload, 1) := by decide +kernel
theorem d_Mo_inSized_13 : decode (mB m_Mo_inSized) 13 = .ok (.istore_n 3, 1) := by decide +kernel
theorem d_Mo_inSized_14 : decode (mB m_Mo_inSized) 14 = .ok (.aload_n 0, 1) := by decide +kernel
theorem d_Mo_inSized_15 : decode (mB m_Mo_inSized) 15 = .ok (.getfield 66, 3) := by decide +kernel
theorem d_Mo_inSized_18 : decode (mB m_Mo_inSized) 18 = .ok (.iload_n 2, 1) := by decide +kernel
theorem d_Mo_inSized_19 : decode (mB m_Mo_inSized) 19 = .ok (.iaload, 1) := by decide +kernel
theorem d_Mo_inSized_20 : decode (mB m_Mo_inSized) 20 = .ok (.ifCond .ne 52, 3) := by decide +kernel
theorem d_Mo_inSized_23 : decode (mB m_Mo_inSized) 23 = .ok (.iload_n 1, 1) := by decide +kernel
theorem d_Mo_inSized_24 : decode (mB m_Mo_inSized) 24 = .ok (.bipush 49, 2) := by decide +kernel
theorem d_Mo_inSized_26 : decode (mB m_Mo_inSized) 26 = .ok (.if_icmp .lt 25, 3) := by decide +kernel
theorem d_Mo_inSized_29 : decode (mB m_Mo_inSized) 29 = .ok (.iload_n 1, 1) := by decide +kernel
theorem d_Mo_inSized_30 : decode (mB m_Mo_inSized) 30 = .ok (.aload_n 0, 1) := by decide +kernel
theorem d_Mo_inSized_31 : decode (mB m_Mo_inSized) 31 = .ok (.getfield 30, 3) := by decide +kernel
theorem d_Mo_inSized_34 : decode (mB m_Mo_inSized) 34 = .ok (.iload_n 3, 1) := by decide +kernel
theorem d_Mo_inSized_35 : decode (mB m_Mo_inSized) 35 = .ok (.iaload, 1) := by decide +kernel
theorem d_Mo_inSized_36 : decode (mB m_Mo_inSized) 36 = .ok (.bipush 112, 2) := by decide +kernel
theorem d_Mo_inSized_38 : decode (mB m_Mo_inSized) 38 = .ok (.if_icmp .ne 8, 3) := by decide +kernel
theorem d_Mo_inSized_41 : decode (mB m_Mo_inSized) 41 = .ok (.bipush 55, 2) := by decide +kernel
theorem d_Mo_inSized_43 : decode (mB m_Mo_inSized) 43 = .ok (.goto 5, 3) := by decide +kernel
theorem d_Mo_inSized_46 : decode (mB m_Mo_inSized) 46 = .ok (.bipush 52, 2) := by decide +kernel
theorem d_Mo_inSized_48 : decode (mB m_Mo_inSized) 48 = .ok (.if_icmp .le 5, 3) := by decide +kernel
theorem d_Mo_inSized_51 : decode (mB m_Mo_inSized) 51 = .ok (.iconst 0, 1) := by decide +kernel
theorem d_Mo_inSized_52 : decode (mB m_Mo_inSized) 52 = .ok (.ireturn, 1) := by decide +kernel
theorem d_Mo_inSized_53 : decode (mB m_Mo_inSized) 53 = .ok (.aload_n 0, 1) := by decide +kernel
theorem d_Mo_inSized_54 : decode (mB m_Mo_inSized) 54 = .ok (.getfield 33, 3) := by decide +kernel
theorem d_Mo_inSized_57 : decode (mB m_Mo_inSized) 57 = .ok (.iload_n 3, 1) := by decide +kernel
theorem d_Mo_inSized_58 : decode (mB m_Mo_inSized) 58 = .ok (.iload_n 1, 1) := by decide +kernel
theorem d_Mo_inSized_59 : decode (mB m_Mo_inSized) 59 = .ok (.bipush 48, 2) := by decide +kernel
theorem d_Mo_inSized_61 : decode (mB m_Mo_inSized) 61 = .ok (.isub, 1) := by decide +kernel
theorem d_Mo_inSized_62 : decode (mB m_Mo_inSized) 62 = .ok (.iastore, 1) := by decide +kernel
theorem d_Mo_inSized_63 : decode (mB m_Mo_inSized) 63 = .ok (.aload_n 0, 1) := by decide +kernel
theorem d_Mo_inSized_64 : decode (mB m_Mo_inSized) 64 = .ok (.getfield 66, 3) := by decide +kernel
theorem d_Mo_inSized_67 : decode (mB m_Mo_inSized) 67 = .ok (.iload_n 2, 1) := by decide +kernel
theorem d_Mo_inSized_68 : decode (mB m_Mo_inSized) 68 = .ok (.iconst 1, 1) := by decide +kernel
theorem d_Mo_inSized_69 : decode (mB m_Mo_inSized) 69 = .ok (.iastore, 1) := by decide +kernel
theorem d_Mo_inSized_70 : decode (mB m_Mo_inSized) 70 = .ok (.iconst 1, 1) := by decide +kernel
theorem d_Mo_inSized_71 : decode (mB m_Mo_inSized) 71 = .ok (.ireturn, 1) := by decide +kernel
theorem d_Mo_inSized_72 : decode (mB m_Mo_inSized) 72 = .ok (.aload_n 0, 1) := by decide +kernel
theorem d_Mo_inSized_73 : decode (mB m_Mo_inSized) 73 = .ok (.getfield 66, 3) := by decide +kernel
theorem d_Mo_inSized_76 : decode (mB m_Mo_inSized) 76 = .ok (.iload_n 2, 1) := by decide +kernel
theorem d_Mo_inSized_77 : decode (mB m_Mo_inSized) 77 = .ok (.iaload, 1) := by decide +kernel
theorem d_Mo_inSized_78 : decode (mB m_Mo_inSized) 78 = .ok (.iconst 1, 1) := by decide +kernel
theorem d_Mo_inSized_79 : decode (mB m_Mo_inSized) 79 = .ok (.if_icmp .ne 44, 3) := by decide +kernel
theorem d_Mo_inSized_82 : decode (mB m_Mo_inSized) 82 = .ok (.iload_n 1, 1) := by decide +kernel
theorem d_Mo_inSized_83 : decode (mB m_Mo_inSized) 83 = .ok (.bipush 60, 2) := by decide +kernel
theorem d_Mo_inSized_85 : decode (mB m_Mo_inSized) 85 = .ok (.if_icmp .eq 15, 3) := by decide +kernel
theorem d_Mo_inSized_88 : decode (mB m_Mo_inSized) 88 = .ok (.iload_n 1, 1) := by decide +kernel
theorem d_Mo_inSized_89 : decode (mB m_Mo_inSized) 89 = .ok (.bipush 62, 2) := by decide +kernel
theorem d_Mo_inSized_91 : decode (mB m_Mo_inSized) 91 = .ok (.if_icmp .eq 9, 3) := by decide +kernel
theorem d_Mo_inSized_94 : decode (mB m_Mo_inSized) 94 = .ok (.iload_n 1, 1) := by decide +kernel
theorem d_Mo_inSized_95 : decode (mB m_Mo_inSized) 95 = .ok (.bipush 61, 2) := by decide +kernel
theorem d_Mo_inSized_97 : decode (mB m_Mo_inSized) 97 = .ok (.if_icmp .ne 26, 3) := by decide +kernel
theorem d_Mo_inSized_100 : decode (mB m_Mo_inSized) 100 = .ok (.aload_n 0, 1) := by decide +kernel
theorem d_Mo_inSized_101 : decode (mB m_Mo_inSized) 101 = .ok (.getfield 36, 3) := by decide +kernel
theorem d_Mo_inSized_104 : decode (mB m_Mo_inSized) 104 = .ok (.iload_n 3, 1) := by decide +kernel
theorem d_Mo_inSized_105 : decode (mB m_Mo_inSized) 105 = .ok (.iload_n 1, 1) := by decide +kernel
theorem d_Mo_inSized_106 : decode (mB m_Mo_inSized) 106 = .ok (.iastore, 1) := by decide +kernel
theorem d_Mo_inSized_107 : decode (mB m_Mo_inSized) 107 = .ok (.aload_n 0, 1) := by decide +kernel
theorem d_Mo_inSized_108 : decode (mB m_Mo_inSized) 108 = .ok (.getfield 66, 3) := by decide +kernel
theorem d_Mo_inSized_111 : decode (mB m_Mo_inSized) 111 = .ok (.iload_n 2, 1) := by decide +kernel
theorem d_Mo_inSized_112 : decode (mB m_Mo_inSized) 112 = .ok (.iconst 2, 1) := by decide +kernel
theorem d_Mo_inSized_113 : decode (mB m_Mo_inSized) 113 = .ok (.iastore, 1) := by decide +kernel
theorem d_Mo_inSized_114 : decode (mB m_Mo_inSized) 114 = .ok (.aload_n 0, 1) := by decide +kernel
theorem d_Mo_inSized_115 : decode (mB m_Mo_inSized) 115 = .ok (.getfield 69, 3) := by decide +kernel
theorem d_Mo_inSized_118 : decode (mB m_Mo_inSized) 118 = .ok (.iload_n 2, 1) := by decide +kernel
theorem d_Mo_inSized_119 : decode (mB m_Mo_inSized) 119 = .ok (.iconst 0, 1) := by decide +kernel
theorem d_Mo_inSized_120 : decode (mB m_Mo_inSized) 120 = .ok (.iastore, 1) := by decide +kernel
theorem d_Mo_inSized_121 : decode (mB m_Mo_inSized) 121 = .ok (.iconst 1, 1) := by decide +kernel
theorem d_Mo_inSized_122 : decode (mB m_Mo_inSized) 122 = .ok (.ireturn, 1) := by decide +kernel
theorem d_Mo_inSized_123 : decode (mB m_Mo_inSized) 123 = .ok (.aload_n 0, 1) := by decide +kernel
theorem d_Mo_inSized_124 : decode (mB m_Mo_inSized) 124 = .ok (.getfield 66, 3) := by decide +kernel
theorem d_Mo_inSized_127 : decode (mB m_Mo_inSized) 127 = .ok (.iload_n 2, 1) := by decide +kernel
theorem d_Mo_inSized_128 : decode (mB m_Mo_inSized) 128 = .ok (.iaload, 1) := by decide +kernel
theorem d_Mo_inSized_129 : decode (mB m_Mo_inSized) 129 = .ok (.iconst 2, 1) := by decide +kernel
theorem d_Mo_inSized_130 : decode (mB m_Mo_inSized) 130 = .ok (.if_icmp .eq 23, 3) := by decide +kernel
theorem d_Mo_inSized_133 : decode (mB m_Mo_inSized) 133 = .ok (.aload_n 0, 1) := by decide +kernel
theorem d_Mo_inSized_134 : decode (mB m_Mo_inSized) 134 = .ok (.getfield 66, 3) := by decide +kernel
theorem d_Mo_inSized_137 : decode (mB m_Mo_inSized) 137 = .ok (.iload_n 2, 1) := by decide +kernel
theorem d_Mo_inSized_138 : decode (mB m_Mo_inSized) 138 = .ok (.iaload, 1) := by decide +kernel
theorem d_Mo_inSized_139 : decode (mB m_Mo_inSized) 139 = .ok (.iconst 3, 1) := by decide +kernel
theorem d_Mo_inSized_140 : decode (mB m_Mo_inSized) 140 = .ok (.if_icmp .ne 72, 3) := by decide +kernel
theorem d_Mo_inSized_143 : decode (mB m_Mo_inSized) 143 = .ok (.aload_n 0, 1) := by decide +kernel
theorem d_Mo_inSized_144 : decode (mB m_Mo_inSized) 144 = .ok (.getfield 69, 3) := by decide +kernel
theorem d_Mo_inSized_147 : decode (mB m_Mo_inSized) 147 = .ok (.iload_n 2, 1) := by decide +kernel
theorem d_Mo_inSized_148 : decode (mB m_Mo_inSized) 148 = .ok (.iaload, 1) := by decide +kernel
theorem d_Mo_inSized_149 : decode (mB m_Mo_inSized) 149 = .ok (.iconst 3, 1) := by decide +kernel
theorem d_Mo_inSized_150 : decode (mB m_Mo_inSized) 150 = .ok (.if_icmp .ge 62, 3) := by decide +kernel
theorem d_Mo_inSized_153 : decode (mB m_Mo_inSized) 153 = .ok (.aload_n 0, 1) := by decide +kernel
theorem d_Mo_inSized_154 : decode (mB m_Mo_inSized) 154 = .ok (.iload_n 1, 1) := by decide +kernel
theorem d_Mo_inSized_155 : decode (mB m_Mo_inSized) 155 = .ok (.invokevirtual 138, 3) := by decide +kernel
theorem d_Mo_inSized_158 : decode (mB m_Mo_inSized) 158 = .ok (.ifCond .eq 42, 3) := by decide +kernel
theorem d_Mo_inSized_161 : decode (mB m_Mo_inSized) 161 = .ok (.aload_n 0, 1) := by decide +kernel
theorem d_Mo_inSized_162 : decode (mB m_Mo_inSized) 162 = .ok (.getfield 39, 3) := by decide +kernel
theorem d_Mo_inSized_165 : decode (mB m_Mo_inSized) 165 = .ok (.iload_n 3, 1) := by decide +kernel
theorem d_Mo_inSized_166 : decode (mB m_Mo_inSized) 166 = .ok (.aload_n 0, 1) := by decide +kernel
theorem d_Mo_inSized_167 : decode (mB m_Mo_inSized) 167 = .ok (.getfield 39, 3) := by decide +kernel
theorem d_Mo_inSized_170 : decode (mB m_Mo_inSized) 170 = .ok (.iload_n 3, 1) := by decide +kernel
theorem d_Mo_inSized_171 : decode (mB m_Mo_inSized) 171 = .ok (.iaload, 1) := by decide +kernel
theorem d_Mo_inSized_172 : decode (mB m_Mo_inSized) 172 = .ok (.bipush 10, 2) := by decide +kernel
theorem d_Mo_inSized_174 : decode (mB m_Mo_inSized) 174 = .ok (.imul, 1) := by decide +kernel
theorem d_Mo_inSized_175 : decode (mB m_Mo_inSized) 175 = .ok (.iload_n 1, 1) := by decide +kernel
theorem d_Mo_inSized_176 : decode (mB m_Mo_inSized) 176 = .ok (.iadd, 1) := by decide +kernel
theorem d_Mo_inSized_177 : decode (mB m_Mo_inSized) 177 = .ok (.bipush 48, 2) := by decide +kernel
theorem d_Mo_inSized_179 : decode (mB m_Mo_inSized) 179 = .ok (.isub, 1) := by decide +kernel
theorem d_Mo_inSized_180 : decode (mB m_Mo_inSized) 180 = .ok (.iastore, 1) := by decide +kernel
theorem d_Mo_inSized_181 : decode (mB m_Mo_inSized) 181 = .ok (.aload_n 0, 1) := by decide +kernel
theorem d_Mo_inSized_182 : decode (mB m_Mo_inSized) 182 = .ok (.getfield 69, 3) := by decide +kernel
theorem d_Mo_inSized_185 : decode (mB m_Mo_inSized) 185 = .ok (.iload_n 2, 1) := by decide +kernel
theorem d_Mo_inSized_186 : decode (mB m_Mo_inSized) 186 = .ok (.dup2, 1) := by decide +kernel
theorem d_Mo_inSized_187 : decode (mB m_Mo_inSized) 187 = .ok (.iaload, 1) := by decide +kernel
theorem d_Mo_inSized_188 : decode (mB m_Mo_inSized) 188 = .ok (.iconst 1, 1) := by decide +kernel
theorem d_Mo_inSized_189 : decode (mB m_Mo_inSized) 189 = .ok (.iadd, 1) := by decide +kernel
theorem d_Mo_inSized_190 : decode (mB m_Mo_inSized) 190 = .ok (.iastore, 1) := by decide +kernel
theorem d_Mo_inSized_191 : decode (mB m_Mo_inSized) 191 = .ok (.aload_n 0, 1) := by decide +kernel
theorem d_Mo_inSized_192 : decode (mB m_Mo_inSized) 192 = .ok (.getfield 66, 3) := by decide +kernel
theorem d_Mo_inSized_195 : decode (mB m_Mo_inSized) 195 = .ok (.iload_n 2, 1) := by decide +kernel
theorem d_Mo_inSized_196 : decode (mB m_Mo_inSized) 196 = .ok (.iconst 3, 1) := by decide +kernel
theorem d_Mo_inSized_197 : decode (mB m_Mo_inSized) 197 = .ok (.iastore, 1) := by decide +kernel
theorem d_Mo_inSized_198 : decode (mB m_Mo_inSized) 198 = .ok (.iconst 1, 1) := by decide +kernel
theorem d_Mo_inSized_199 : decode (mB m_Mo_inSized) 199 = .ok (.ireturn, 1) := by decide +kernel
theorem d_Mo_inSized_200 : decode (mB m_Mo_inSized) 200 = .ok (.aload_n 0, 1) := by decide +kernel
theorem d_Mo_inSized_201 : decode (mB m_Mo_inSized) 201 = .ok (.getfield 66, 3) := by decide +kernel
theorem d_Mo_inSized_204 : decode (mB m_Mo_inSized) 204 = .ok (.iload_n 2, 1) := by decide +kernel
theorem d_Mo_inSized_205 : decode (mB m_Mo_inSized) 205 = .ok (.iaload, 1) := by decide +kernel
theorem d_Mo_inSized_206 : decode (mB m_Mo_inSized) 206 = .ok (.iconst 2, 1) := by decide +kernel
theorem d_Mo_inSized_207 : decode (mB m_Mo_inSized) 207 = .ok (.if_icmp .ne 5, 3) := by decide +kernel
theorem d_Mo_inSized_210 : decode (mB m_Mo_inSized) 210 = .ok (.iconst 0, 1) := by decide +kernel
theorem d_Mo_inSized_211 : decode (mB m_Mo_inSized) 211 = .ok (.ireturn, 1) := by decide +kernel
theorem d_Mo_inSized_212 : decode (mB m_Mo_inSized) 212 = .ok (.aload_n 0, 1) := by decide +kernel
theorem d_Mo_inSized_213 : decode (mB m_Mo_inSized) 213 = .ok (.invokevirtual 135, 3) := by decide +kernel
theorem d_Mo_inSized_216 : decode (mB m_Mo_inSized) 216 = .ok (.iconst 2, 1) := by decide +kernel
theorem d_Mo_inSized_217 : decode (mB m_Mo_inSized) 217 = .ok (.ireturn, 1) := by decide +kernel
