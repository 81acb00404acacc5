theorem d_Mo_writeWords_0 : decode (mB m_Mo_writeWords) 0 = .ok (.aload_n 0, 1) := by decide +kernel
theorem d_Mo_writeWords_1 : decode (mB m_Mo_writeWords) 1 = .ok (.invokevirtual 252, 3) := by decide +kernel
theorem d_Mo_writeWords_4 : decode (mB m_Mo_writeWords) 4 = .ok (.lstore_n 2, 1) := by decide +kernel
theorem d_Mo_writeWords_5 : decode (mB m_Mo_writeWords) 5 = .ok (.aload_n 0, 1) := by decide +kernel
theorem d_Mo_writeWords_6 : decode (mB m_Mo_writeWords) 6 = .ok (.lload_n 2, 1) := by decide +kernel
theorem d_Mo_writeWords_7 : decode (mB m_Mo_writeWords) 7 = .ok (.lconst 0, 1) := by decide +kernel
theorem d_Mo_writeWords_8 : decode (mB m_Mo_writeWords) 8 = .ok (.lcmp, 1) := by decide +kernel
theorem d_Mo_writeWords_9 : decode (mB m_Mo_writeWords) 9 = .ok (.ifCond .lt 21, 3) := by decide +kernel
theorem d_Mo_writeWords_12 : decode (mB m_Mo_writeWords) 12 = .ok (.lload_n 2, 1) := by decide +kernel
theorem d_Mo_writeWords_13 : decode (mB m_Mo_writeWords) 13 = .ok (.iload_n 1, 1) := by decide +kernel
theorem d_Mo_writeWords_14 : decode (mB m_Mo_writeWords) 14 = .ok (.ifCond .eq 9, 3) := by decide +kernel
theorem d_Mo_writeWords_17 : decode (mB m_Mo_writeWords) 17 = .ok (.ldc2_w 275, 3) := by decide +kernel
theorem d_Mo_writeWords_20 : decode (mB m_Mo_writeWords) 20 = .ok (.goto 6, 3) := by decide +kernel
theorem d_Mo_writeWords_23 : decode (mB m_Mo_writeWords) 23 = .ok (.ldc2_w 183, 3) := by decide +kernel
theorem d_Mo_writeWords_26 : decode (mB m_Mo_writeWords) 26 = .ok (.lcmp, 1) := by decide +kernel
theorem d_Mo_writeWords_27 : decode (mB m_Mo_writeWords) 27 = .ok (.ifCond .le 7, 3) := by decide +kernel
theorem d_Mo_writeWords_30 : decode (mB m_Mo_writeWords) 30 = .ok (.iconst 1, 1) := by decide +kernel
theorem d_Mo_writeWords_31 : decode (mB m_Mo_writeWords) 31 = .ok (.goto 4, 3) := by decide +kernel
theorem d_Mo_writeWords_34 : decode (mB m_Mo_writeWords) 34 = .ok (.iconst 0, 1) := by decide +kernel
theorem d_Mo_writeWords_35 : decode (mB m_Mo_writeWords) 35 = .ok (.invokevirtual 229, 3) := by decide +kernel
theorem d_Mo_writeWords_38 : decode (mB m_Mo_writeWords) 38 = .ok (.iconst 0, 1) := by decide +kernel
theorem d_Mo_writeWords_39 : decode (mB m_Mo_writeWords) 39 = .ok (.istore 4, 2) := by decide +kernel
theorem d_Mo_writeWords_41 : decode (mB m_Mo_writeWords) 41 = .ok (.aload_n 0, 1) := by decide +kernel
theorem d_Mo_writeWords_42 : decode (mB m_Mo_writeWords) 42 = .ok (.getfield 223, 3) := by decide +kernel
theorem d_Mo_writeWords_45 : decode (mB m_Mo_writeWords) 45 = .ok (.ifCond .ne 63, 3) := by decide +kernel
theorem d_Mo_writeWords_48 : decode (mB m_Mo_writeWords) 48 = .ok (.iload 4, 2) := by decide +kernel
theorem d_Mo_writeWords_50 : decode (mB m_Mo_writeWords) 50 = .ok (.i2l, 1) := by decide +kernel
theorem d_Mo_writeWords_51 : decode (mB m_Mo_writeWords) 51 = .ok (.lload_n 2, 1) := by decide +kernel
theorem d_Mo_writeWords_52 : decode (mB m_Mo_writeWords) 52 = .ok (.lcmp, 1) := by decide +kernel
theorem d_Mo_writeWords_53 : decode (mB m_Mo_writeWords) 53 = .ok (.ifCond .ge 55, 3) := by decide +kernel
theorem d_Mo_writeWords_56 : decode (mB m_Mo_writeWords) 56 = .ok (.aload_n 0, 1) := by decide +kernel
theorem d_Mo_writeWords_57 : decode (mB m_Mo_writeWords) 57 = .ok (.invokevirtual 252, 3) := by decide +kernel
theorem d_Mo_writeWords_60 : decode (mB m_Mo_writeWords) 60 = .ok (.lstore 5, 2) := by decide +kernel
theorem d_Mo_writeWords_62 : decode (mB m_Mo_writeWords) 62 = .ok (.aload_n 0, 1) := by decide +kernel
theorem d_Mo_writeWords_63 : decode (mB m_Mo_writeWords) 63 = .ok (.lload 5, 2) := by decide +kernel
theorem d_Mo_writeWords_65 : decode (mB m_Mo_writeWords) 65 = .ok (.iload_n 1, 1) := by decide +kernel
theorem d_Mo_writeWords_66 : decode (mB m_Mo_writeWords) 66 = .ok (.ifCond .eq 7, 3) := by decide +kernel
theorem d_Mo_writeWords_69 : decode (mB m_Mo_writeWords) 69 = .ok (.lconst 1, 1) := by decide +kernel
theorem d_Mo_writeWords_70 : decode (mB m_Mo_writeWords) 70 = .ok (.goto 4, 3) := by decide +kernel
theorem d_Mo_writeWords_73 : decode (mB m_Mo_writeWords) 73 = .ok (.lconst 0, 1) := by decide +kernel
theorem d_Mo_writeWords_74 : decode (mB m_Mo_writeWords) 74 = .ok (.lcmp, 1) := by decide +kernel
theorem d_Mo_writeWords_75 : decode (mB m_Mo_writeWords) 75 = .ok (.ifCond .lt 12, 3) := by decide +kernel
theorem d_Mo_writeWords_78 : decode (mB m_Mo_writeWords) 78 = .ok (.lload 5, 2) := by decide +kernel
theorem d_Mo_writeWords_80 : decode (mB m_Mo_writeWords) 80 = .ok (.ldc2_w 277, 3) := by decide +kernel
theorem d_Mo_writeWords_83 : decode (mB m_Mo_writeWords) 83 = .ok (.lcmp, 1) := by decide +kernel
theorem d_Mo_writeWords_84 : decode (mB m_Mo_writeWords) 84 = .ok (.ifCond .le 7, 3) := by decide +kernel
theorem d_Mo_writeWords_87 : decode (mB m_Mo_writeWords) 87 = .ok (.iconst 1, 1) := by decide +kernel
theorem d_Mo_writeWords_88 : decode (mB m_Mo_writeWords) 88 = .ok (.goto 4, 3) := by decide +kernel
theorem d_Mo_writeWords_91 : decode (mB m_Mo_writeWords) 91 = .ok (.iconst 0, 1) := by decide +kernel
theorem d_Mo_writeWords_92 : decode (mB m_Mo_writeWords) 92 = .ok (.invokevirtual 229, 3) := by decide +kernel
theorem d_Mo_writeWords_95 : decode (mB m_Mo_writeWords) 95 = .ok (.aload_n 0, 1) := by decide +kernel
theorem d_Mo_writeWords_96 : decode (mB m_Mo_writeWords) 96 = .ok (.lload 5, 2) := by decide +kernel
theorem d_Mo_writeWords_98 : decode (mB m_Mo_writeWords) 98 = .ok (.l2i, 1) := by decide +kernel
theorem d_Mo_writeWords_99 : decode (mB m_Mo_writeWords) 99 = .ok (.invokevirtual 249, 3) := by decide +kernel
theorem d_Mo_writeWords_102 : decode (mB m_Mo_writeWords) 102 = .ok (.iinc 4 1, 3) := by decide +kernel
theorem d_Mo_writeWords_105 : decode (mB m_Mo_writeWords) 105 = .ok (.goto (-64), 3) := by decide +kernel
theorem d_Mo_writeWords_108 : decode (mB m_Mo_writeWords) 108 = .ok (.iload_n 1, 1) := by decide +kernel
theorem d_Mo_writeWords_109 : decode (mB m_Mo_writeWords) 109 = .ok (.ifCond .eq 8, 3) := by decide +kernel
theorem d_Mo_writeWords_112 : decode (mB m_Mo_writeWords) 112 = .ok (.aload_n 0, 1) := by decide +kernel
theorem d_Mo_writeWords_113 : decode (mB m_Mo_writeWords) 113 = .ok (.iconst 0, 1) := by decide +kernel
theorem d_Mo_writeWords_114 : decode (mB m_Mo_writeWords) 114 = .ok (.invokevirtual 249, 3) := by decide +kernel
theorem d_Mo_writeWords_117 : decode (mB m_Mo_writeWords) 117 = .ok (.return_, 1) := by decide +kernel
theorem d_Mo_unit_0 : decode (mB m_Mo_unit) 0 = .ok (.aload_n 0, 1) := by decide +kernel
theorem d_Mo_unit_1 : decode (mB m_Mo_unit) 1 = .ok (.getfield 30, 3) := by decide +kernel
theorem d_Mo_unit_4 : decode (mB m_Mo_unit) 4 = .ok (.iload_n 1, 1) := by decide +kernel
theorem d_Mo_unit_5 : decode (mB m_Mo_unit) 5 = .ok (.iaload, 1) := by decide +kernel
theorem d_Mo_unit_6 : decode (mB m_Mo_unit) 6 = .ok (.istore_n 2, 1) := by decide +kernel
theorem d_Mo_unit_7 : decode (mB m_Mo_unit) 7 = .ok (.iload_n 2, 1) := by decide +kernel
theorem d_Mo_unit_8 : decode (mB m_Mo_unit) 8 = .ok (.bipush 112, 2) := by decide +kernel
theorem d_Mo_unit_10 : decode (mB m_Mo_unit) 10 = .ok (.if_icmp .ne 32, 3) := by decide +kernel
theorem d_Mo_unit_13 : decode (mB m_Mo_unit) 13 = .ok (.aload_n 0, 1) := by decide +kernel
theorem d_Mo_unit_14 : decode (mB m_Mo_unit) 14 = .ok (.getfield 60, 3) := by decide +kernel
theorem d_Mo_unit_17 : decode (mB m_Mo_unit) 17 = .ok (.iload_n 1, 1) := by decide +kernel
theorem d_Mo_unit_18 : decode (mB m_Mo_unit) 18 = .ok (.iaload, 1) := by decide +kernel
theorem d_Mo_unit_19 : decode (mB m_Mo_unit) 19 = .ok (.ifCond .lt 23, 3) := by decide +kernel
theorem d_Mo_unit_22 : decode (mB m_Mo_unit) 22 = .ok (.aload_n 0, 1) := by decide +kernel
theorem d_Mo_unit_23 : decode (mB m_Mo_unit) 23 = .ok (.getfield 30, 3) := by decide +kernel
theorem d_Mo_unit_26 : decode (mB m_Mo_unit) 26 = .ok (.aload_n 0, 1) := by decide +kernel
theorem d_Mo_unit_27 : decode (mB m_Mo_unit) 27 = .ok (.getfield 60, 3) := by decide +kernel
theorem d_Mo_unit_30 : decode (mB m_Mo_unit) 30 = .ok (.iload_n 1, 1) := by decide +kernel
theorem d_Mo_unit_31 : decode (mB m_Mo_unit) 31 = .ok (.iaload, 1) := by decide +kernel
theorem d_Mo_unit_32 : decode (mB m_Mo_unit) 32 = .ok (.iaload, 1) := by decide +kernel
theorem d_Mo_unit_33 : decode (mB m_Mo_unit) 33 = .ok (.bipush 112, 2) := by decide +kernel
theorem d_Mo_unit_35 : decode (mB m_Mo_unit) 35 = .ok (.if_icmp .ne 7, 3) := by decide +kernel
theorem d_Mo_unit_38 : decode (mB m_Mo_unit) 38 = .ok (.iconst 1, 1) := by decide +kernel
theorem d_Mo_unit_39 : decode (mB m_Mo_unit) 39 = .ok (.goto 4, 3) := by decide +kernel
theorem d_Mo_unit_42 : decode (mB m_Mo_unit) 42 = .ok (.iconst 0, 1) := by decide +kernel
theorem d_Mo_unit_43 : decode (mB m_Mo_unit) 43 = .ok (.istore_n 3, 1) := by decide +kernel
theorem d_Mo_unit_44 : decode (mB m_Mo_unit) 44 = .ok (.iload_n 3, 1) := by decide +kernel
theorem d_Mo_unit_45 : decode (mB m_Mo_unit) 45 = .ok (.ifCond .ne 7, 3) := by decide +kernel
theorem d_Mo_unit_48 : decode (mB m_Mo_unit) 48 = .ok (.aload_n 0, 1) := by decide +kernel
theorem d_Mo_unit_49 : decode (mB m_Mo_unit) 49 = .ok (.invokevirtual 279, 3) := by decide +kernel
theorem d_Mo_unit_52 : decode (mB m_Mo_unit) 52 = .ok (.aload_n 0, 1) := by decide +kernel
theorem d_Mo_unit_53 : decode (mB m_Mo_unit) 53 = .ok (.getfield 223, 3) := by decide +kernel
theorem d_Mo_unit_56 : decode (mB m_Mo_unit) 56 = .ok (.ifCond .le 4, 3) := by decide +kernel
theorem d_Mo_unit_59 : decode (mB m_Mo_unit) 59 = .ok (.return_, 1) := by decide +kernel
theorem d_Mo_unit_60 : decode (mB m_Mo_unit) 60 = .ok (.aload_n 0, 1) := by decide +kernel
theorem d_Mo_unit_61 : decode (mB m_Mo_unit) 61 = .ok (.aload_n 0, 1) := by decide +kernel
theorem d_Mo_unit_62 : decode (mB m_Mo_unit) 62 = .ok (.getfield 239, 3) := by decide +kernel
theorem d_Mo_unit_65 : decode (mB m_Mo_unit) 65 = .ok (.bipush 8, 2) := by decide +kernel
theorem d_Mo_unit_67 : decode (mB m_Mo_unit) 67 = .ok (.if_icmp .ge 12, 3) := by decide +kernel
theorem d_Mo_unit_70 : decode (mB m_Mo_unit) 70 = .ok (.aload_n 0, 1) := by decide +kernel
theorem d_Mo_unit_71 : decode (mB m_Mo_unit) 71 = .ok (.getfield 226, 3) := by decide +kernel
theorem d_Mo_unit_74 : decode (mB m_Mo_unit) 74 = .ok (.iconst 1, 1) := by decide +kernel
theorem d_Mo_unit_75 : decode (mB m_Mo_unit) 75 = .ok (.isub, 1) := by decide +kernel
theorem d_Mo_unit_76 : decode (mB m_Mo_unit) 76 = .ok (.goto 7, 3) := by decide +kernel
theorem d_Mo_unit_79 : decode (mB m_Mo_unit) 79 = .ok (.aload_n 0, 1) := by decide +kernel
theorem d_Mo_unit_80 : decode (mB m_Mo_unit) 80 = .ok (.getfield 226, 3) := by decide +kernel
theorem d_Mo_unit_83 : decode (mB m_Mo_unit) 83 = .ok (.putfield 282, 3) := by decide +kernel
theorem d_Mo_unit_86 : decode (mB m_Mo_unit) 86 = .ok (.aload_n 0, 1) := by decide +kernel
theorem d_Mo_unit_87 : decode (mB m_Mo_unit) 87 = .ok (.aload_n 0, 1) := by decide +kernel
theorem d_Mo_unit_88 : decode (mB m_Mo_unit) 88 = .ok (.iload_n 1, 1) := by decide +kernel
theorem d_Mo_unit_89 : decode (mB m_Mo_unit) 89 = .ok (.invokevirtual 285, 3) := by decide +kernel
theorem d_Mo_unit_92 : decode (mB m_Mo_unit) 92 = .ok (.putfield 288, 3) := by decide +kernel
theorem d_Mo_unit_95 : decode (mB m_Mo_unit) 95 = .ok (.aload_n 0, 1) := by decide +kernel
theorem d_Mo_unit_96 : decode (mB m_Mo_unit) 96 = .ok (.iload_n 2, 1) := by decide +kernel
theorem d_Mo_unit_97 : decode (mB m_Mo_unit) 97 = .ok (.invokevirtual 124, 3) := by decide +kernel
theorem d_Mo_unit_100 : decode (mB m_Mo_unit) 100 = .ok (.ifCond .eq 11, 3) := by decide +kernel
theorem d_Mo_unit_103 : decode (mB m_Mo_unit) 103 = .ok (.aload_n 0, 1) := by decide +kernel
theorem d_Mo_unit_104 : decode (mB m_Mo_unit) 104 = .ok (.iload_n 1, 1) := by decide +kernel
theorem d_Mo_unit_105 : decode (mB m_Mo_unit) 105 = .ok (.invokevirtual 291, 3) := by decide +kernel
theorem d_Mo_unit_108 : decode (mB m_Mo_unit) 108 = .ok (.goto 63, 3) := by decide +kernel
theorem d_Mo_unit_111 : decode (mB m_Mo_unit) 111 = .ok (.iload_n 2, 1) := by decide +kernel
theorem d_Mo_unit_112 : decode (mB m_Mo_unit) 112 = .ok (.bipush 102, 2) := by decide +kernel
theorem d_Mo_unit_114 : decode (mB m_Mo_unit) 114 = .ok (.if_icmp .eq 9, 3) := by decide +kernel
theorem d_Mo_unit_117 : decode (mB m_Mo_unit) 117 = .ok (.iload_n 2, 1) := by decide +kernel
theorem d_Mo_unit_118 : decode (mB m_Mo_unit) 118 = .ok (.bipush 100, 2) := by decide +kernel
theorem d_Mo_unit_120 : decode (mB m_Mo_unit) 120 = .ok (.if_icmp .ne 11, 3) := by decide +kernel
theorem d_Mo_unit_123 : decode (mB m_Mo_unit) 123 = .ok (.aload_n 0, 1) := by decide +kernel
theorem d_Mo_unit_124 : decode (mB m_Mo_unit) 124 = .ok (.iload_n 1, 1) := by decide +kernel
theorem d_Mo_unit_125 : decode (mB m_Mo_unit) 125 = .ok (.invokevirtual 294, 3) := by decide +kernel
theorem d_Mo_unit_128 : decode (mB m_Mo_unit) 128 = .ok (.goto 43, 3) := by decide +kernel
theorem d_Mo_unit_131 : decode (mB m_Mo_unit) 131 = .ok (.aload_n 0, 1) := by decide +kernel
theorem d_Mo_unit_132 : decode (mB m_Mo_unit) 132 = .ok (.getfield 242, 3) := by decide +kernel
theorem d_Mo_unit_135 : decode (mB m_Mo_unit) 135 = .ok (.ifCond .eq 21, 3) := by decide +kernel
theorem d_Mo_unit_138 : decode (mB m_Mo_unit) 138 = .ok (.aload_n 0, 1) := by decide +kernel
theorem d_Mo_unit_139 : decode (mB m_Mo_unit) 139 = .ok (.iload_n 2, 1) := by decide +kernel
theorem d_Mo_unit_140 : decode (mB m_Mo_unit) 140 = .ok (.bipush 122, 2) := by decide +kernel
theorem d_Mo_unit_142 : decode (mB m_Mo_unit) 142 = .ok (.if_icmp .ne 7, 3) := by decide +kernel
theorem d_Mo_unit_145 : decode (mB m_Mo_unit) 145 = .ok (.iconst 1, 1) := by decide +kernel
theorem d_Mo_unit_146 : decode (mB m_Mo_unit) 146 = .ok (.goto 4, 3) := by decide +kernel
theorem d_Mo_unit_149 : decode (mB m_Mo_unit) 149 = .ok (.iconst 0, 1) := by decide +kernel
theorem d_Mo_unit_150 : decode (mB m_Mo_unit) 150 = .ok (.invokevirtual 297, 3) := by decide +kernel
theorem d_Mo_unit_153 : decode (mB m_Mo_unit) 153 = .ok (.goto 18, 3) := by decide +kernel
theorem d_Mo_unit_156 : decode (mB m_Mo_unit) 156 = .ok (.aload_n 0, 1) := by decide +kernel
theorem d_Mo_unit_157 : decode (mB m_Mo_unit) 157 = .ok (.iload_n 2, 1) := by decide +kernel
theorem d_Mo_unit_158 : decode (mB m_Mo_unit) 158 = .ok (.bipush 122, 2) := by decide +kernel
theorem d_Mo_unit_160 : decode (mB m_Mo_unit) 160 = .ok (.if_icmp .ne 7, 3) := by decide +kernel
theorem d_Mo_unit_163 : decode (mB m_Mo_unit) 163 = .ok (.iconst 1, 1) := by decide +kernel
theorem d_Mo_unit_164 : decode (mB m_Mo_unit) 164 = .ok (.goto 4, 3) := by decide +kernel
theorem d_Mo_unit_167 : decode (mB m_Mo_unit) 167 = .ok (.iconst 0, 1) := by decide +kernel
theorem d_Mo_unit_168 : decode (mB m_Mo_unit) 168 = .ok (.invokevirtual 300, 3) := by decide +kernel
theorem d_Mo_unit_171 : decode (mB m_Mo_unit) 171 = .ok (.return_, 1) := by decide +kernel
theorem d_Mo_enter_0 : decode (mB m_Mo_enter) 0 = .ok (.aload_n 0, 1) := by decide +kernel
theorem d_Mo_enter_1 : decode (mB m_Mo_enter) 1 = .ok (.getfield 30, 3) := by decide +kernel
theorem d_Mo_enter_4 : decode (mB m_Mo_enter) 4 = .ok (.iload_n 1, 1) := by decide +kernel
theorem d_Mo_enter_5 : decode (mB m_Mo_enter) 5 = .ok (.iaload, 1) := by decide +kernel
theorem d_Mo_enter_6 : decode (mB m_Mo_enter) 6 = .ok (.istore_n 2, 1) := by decide +kernel
theorem d_Mo_enter_7 : decode (mB m_Mo_enter) 7 = .ok (.iload_n 2, 1) := by decide +kernel
theorem d_Mo_enter_8 : decode (mB m_Mo_enter) 8 = .ok (.bipush 123, 2) := by decide +kernel
theorem d_Mo_enter_10 : decode (mB m_Mo_enter) 10 = .ok (.if_icmp .eq 27, 3) := by decide +kernel
theorem d_Mo_enter_13 : decode (mB m_Mo_enter) 13 = .ok (.iload_n 2, 1) := by decide +kernel
theorem d_Mo_enter_14 : decode (mB m_Mo_enter) 14 = .ok (.bipush 42, 2) := by decide +kernel
theorem d_Mo_enter_16 : decode (mB m_Mo_enter) 16 = .ok (.if_icmp .eq 21, 3) := by decide +kernel
theorem d_Mo_enter_19 : decode (mB m_Mo_enter) 19 = .ok (.iload_n 2, 1) := by decide +kernel
theorem d_Mo_enter_20 : decode (mB m_Mo_enter) 20 = .ok (.bipush 47, 2) := by decide +kernel
theorem d_Mo_enter_22 : decode (mB m_Mo_enter) 22 = .ok (.if_icmp .eq 15, 3) := by decide +kernel
theorem d_Mo_enter_25 : decode (mB m_Mo_enter) 25 = .ok (.iload_n 2, 1) := by decide +kernel
theorem d_Mo_enter_26 : decode (mB m_Mo_enter) 26 = .ok (.bipush 63, 2) := by decide +kernel
theorem d_Mo_enter_28 : decode (mB m_Mo_enter) 28 = .ok (.if_icmp .eq 9, 3) := by decide +kernel
theorem d_Mo_enter_31 : decode (mB m_Mo_enter) 31 = .ok (.aload_n 0, 1) := by decide +kernel
theorem d_Mo_enter_32 : decode (mB m_Mo_enter) 32 = .ok (.iload_n 1, 1) := by decide +kernel
theorem d_Mo_enter_33 : decode (mB m_Mo_enter) 33 = .ok (.invokevirtual 303, 3) := by decide +kernel
theorem d_Mo_enter_36 : decode (mB m_Mo_enter) 36 = .ok (.return_, 1) := by decide +kernel
theorem d_Mo_enter_37 : decode (mB m_Mo_enter) 37 = .ok (.aload_n 0, 1) := by decide +kernel
theorem d_Mo_enter_38 : decode (mB m_Mo_enter) 38 = .ok (.getfield 87, 3) := by decide +kernel
theorem d_Mo_enter_41 : decode (mB m_Mo_enter) 41 = .ok (.iload_n 1, 1) := by decide +kernel
theorem d_Mo_enter_42 : decode (mB m_Mo_enter) 42 = .ok (.iaload, 1) := by decide +kernel
theorem d_Mo_enter_43 : decode (mB m_Mo_enter) 43 = .ok (.ifCond .ge 7, 3) := by decide +kernel
theorem d_Mo_enter_46 : decode (mB m_Mo_enter) 46 = .ok (.lconst 0, 1) := by decide +kernel
theorem d_Mo_enter_47 : decode (mB m_Mo_enter) 47 = .ok (.goto 14, 3) := by decide +kernel
theorem d_Mo_enter_50 : decode (mB m_Mo_enter) 50 = .ok (.aload_n 0, 1) := by decide +kernel
theorem d_Mo_enter_51 : decode (mB m_Mo_enter) 51 = .ok (.getfield 90, 3) := by decide +kernel
theorem d_Mo_enter_54 : decode (mB m_Mo_enter) 54 = .ok (.aload_n 0, 1) := by decide +kernel
theorem d_Mo_enter_55 : decode (mB m_Mo_enter) 55 = .ok (.getfield 87, 3) := by decide +kernel
theorem d_Mo_enter_58 : decode (mB m_Mo_enter) 58 = .ok (.iload_n 1, 1) := by decide +kernel
theorem d_Mo_enter_59 : decode (mB m_Mo_enter) 59 = .ok (.iaload, 1) := by decide +kernel
theorem d_Mo_enter_60 : decode (mB m_Mo_enter) 60 = .ok (.laload, 1) := by decide +kernel
theorem d_Mo_enter_61 : decode (mB m_Mo_enter) 61 = .ok (.lstore_n 3, 1) := by decide +kernel
theorem d_Mo_enter_62 : decode (mB m_Mo_enter) 62 = .ok (.aload_n 0, 1) := by decide +kernel
theorem d_Mo_enter_63 : decode (mB m_Mo_enter) 63 = .ok (.iload_n 2, 1) := by decide +kernel
theorem d_Mo_enter_64 : decode (mB m_Mo_enter) 64 = .ok (.bipush 42, 2) := by decide +kernel
theorem d_Mo_enter_66 : decode (mB m_Mo_enter) 66 = .ok (.if_icmp .eq 9, 3) := by decide +kernel
theorem d_Mo_enter_69 : decode (mB m_Mo_enter) 69 = .ok (.iload_n 2, 1) := by decide +kernel
theorem d_Mo_enter_70 : decode (mB m_Mo_enter) 70 = .ok (.bipush 47, 2) := by decide +kernel
theorem d_Mo_enter_72 : decode (mB m_Mo_enter) 72 = .ok (.if_icmp .ne 13, 3) := by decide +kernel
theorem d_Mo_enter_75 : decode (mB m_Mo_enter) 75 = .ok (.lload_n 3, 1) := by decide +kernel
theorem d_Mo_enter_76 : decode (mB m_Mo_enter) 76 = .ok (.lconst 0, 1) := by decide +kernel
theorem d_Mo_enter_77 : decode (mB m_Mo_enter) 77 = .ok (.lcmp, 1) := by decide +kernel
theorem d_Mo_enter_78 : decode (mB m_Mo_enter) 78 = .ok (.ifCond .ge 7, 3) := by decide +kernel
theorem d_Mo_enter_81 : decode (mB m_Mo_enter) 81 = .ok (.iconst 1, 1) := by decide +kernel
theorem d_Mo_enter_82 : decode (mB m_Mo_enter) 82 = .ok (.goto 4, 3) := by decide +kernel
theorem d_Mo_enter_85 : decode (mB m_Mo_enter) 85 = .ok (.iconst 0, 1) := by decide +kernel
theorem d_Mo_enter_86 : decode (mB m_Mo_enter) 86 = .ok (.invokevirtual 229, 3) := by decide +kernel
theorem d_Mo_enter_89 : decode (mB m_Mo_enter) 89 = .ok (.aload_n 0, 1) := by decide +kernel
theorem d_Mo_enter_90 : decode (mB m_Mo_enter) 90 = .ok (.getfield 54, 3) := by decide +kernel
theorem d_Mo_enter_93 : decode (mB m_Mo_enter) 93 = .ok (.iload_n 1, 1) := by decide +kernel
theorem d_Mo_enter_94 : decode (mB m_Mo_enter) 94 = .ok (.iaload, 1) := by decide +kernel
theorem d_Mo_enter_95 : decode (mB m_Mo_enter) 95 = .ok (.istore 5, 2) := by decide +kernel
theorem d_Mo_enter_97 : decode (mB m_Mo_enter) 97 = .ok (.iload_n 2, 1) := by decide +kernel
theorem d_Mo_enter_98 : decode (mB m_Mo_enter) 98 = .ok (.bipush 63, 2) := by decide +kernel
theorem d_Mo_enter_100 : decode (mB m_Mo_enter) 100 = .ok (.if_icmp .ne 33, 3) := by decide +kernel
theorem d_Mo_enter_103 : decode (mB m_Mo_enter) 103 = .ok (.iload 5, 2) := by decide +kernel
theorem d_Mo_enter_105 : decode (mB m_Mo_enter) 105 = .ok (.ifCond .lt 28, 3) := by decide +kernel
theorem d_Mo_enter_108 : decode (mB m_Mo_enter) 108 = .ok (.aload_n 0, 1) := by decide +kernel
theorem d_Mo_enter_109 : decode (mB m_Mo_enter) 109 = .ok (.getfield 48, 3) := by decide +kernel
theorem d_Mo_enter_112 : decode (mB m_Mo_enter) 112 = .ok (.iload 5, 2) := by decide +kernel
theorem d_Mo_enter_114 : decode (mB m_Mo_enter) 114 = .ok (.iaload, 1) := by decide +kernel
theorem d_Mo_enter_115 : decode (mB m_Mo_enter) 115 = .ok (.i2l, 1) := by decide +kernel
theorem d_Mo_enter_116 : decode (mB m_Mo_enter) 116 = .ok (.lload_n 3, 1) := by decide +kernel
theorem d_Mo_enter_117 : decode (mB m_Mo_enter) 117 = .ok (.lcmp, 1) := by decide +kernel
theorem d_Mo_enter_118 : decode (mB m_Mo_enter) 118 = .ok (.ifCond .eq 15, 3) := by decide +kernel
theorem d_Mo_enter_121 : decode (mB m_Mo_enter) 121 = .ok (.aload_n 0, 1) := by decide +kernel
theorem d_Mo_enter_122 : decode (mB m_Mo_enter) 122 = .ok (.getfield 57, 3) := by decide +kernel
theorem d_Mo_enter_125 : decode (mB m_Mo_enter) 125 = .ok (.iload 5, 2) := by decide +kernel
theorem d_Mo_enter_127 : decode (mB m_Mo_enter) 127 = .ok (.iaload, 1) := by decide +kernel
theorem d_Mo_enter_128 : decode (mB m_Mo_enter) 128 = .ok (.istore 5, 2) := by decide +kernel
theorem d_Mo_enter_130 : decode (mB m_Mo_enter) 130 = .ok (.goto (-33), 3) := by decide +kernel
theorem d_Mo_enter_133 : decode (mB m_Mo_enter) 133 = .ok (.aload_n 0, 1) := by decide +kernel
theorem d_Mo_enter_134 : decode (mB m_Mo_enter) 134 = .ok (.iload_n 2, 1) := by decide +kernel
theorem d_Mo_enter_135 : decode (mB m_Mo_enter) 135 = .ok (.bipush 63, 2) := by decide +kernel
theorem d_Mo_enter_137 : decode (mB m_Mo_enter) 137 = .ok (.if_icmp .ne 12, 3) := by decide +kernel
theorem d_Mo_enter_140 : decode (mB m_Mo_enter) 140 = .ok (.iload 5, 2) := by decide +kernel
theorem d_Mo_enter_142 : decode (mB m_Mo_enter) 142 = .ok (.ifCond .ge 7, 3) := by decide +kernel
theorem d_Mo_enter_145 : decode (mB m_Mo_enter) 145 = .ok (.iconst 1, 1) := by decide +kernel
theorem d_Mo_enter_146 : decode (mB m_Mo_enter) 146 = .ok (.goto 4, 3) := by decide +kernel
theorem d_Mo_enter_149 : decode (mB m_Mo_enter) 149 = .ok (.iconst 0, 1) := by decide +kernel
theorem d_Mo_enter_150 : decode (mB m_Mo_enter) 150 = .ok (.invokevirtual 229, 3) := by decide +kernel
theorem d_Mo_enter_153 : decode (mB m_Mo_enter) 153 = .ok (.aload_n 0, 1) := by decide +kernel
theorem d_Mo_enter_154 : decode (mB m_Mo_enter) 154 = .ok (.getfield 93, 3) := by decide +kernel
theorem d_Mo_enter_157 : decode (mB m_Mo_enter) 157 = .ok (.aload_n 0, 1) := by decide +kernel
theorem d_Mo_enter_158 : decode (mB m_Mo_enter) 158 = .ok (.getfield 306, 3) := by decide +kernel
theorem d_Mo_enter_161 : decode (mB m_Mo_enter) 161 = .ok (.iload_n 1, 1) := by decide +kernel
theorem d_Mo_enter_162 : decode (mB m_Mo_enter) 162 = .ok (.iastore, 1) := by decide +kernel
theorem d_Mo_enter_163 : decode (mB m_Mo_enter) 163 = .ok (.aload_n 0, 1) := by decide +kernel
theorem d_Mo_enter_164 : decode (mB m_Mo_enter) 164 = .ok (.getfield 96, 3) := by decide +kernel
theorem d_Mo_enter_167 : decode (mB m_Mo_enter) 167 = .ok (.aload_n 0, 1) := by decide +kernel
theorem d_Mo_enter_168 : decode (mB m_Mo_enter) 168 = .ok (.getfield 306, 3) := by decide +kernel
theorem d_Mo_enter_171 : decode (mB m_Mo_enter) 171 = .ok (.iload 5, 2) := by decide +kernel
theorem d_Mo_enter_173 : decode (mB m_Mo_enter) 173 = .ok (.iastore, 1) := by decide +kernel
theorem d_Mo_enter_174 : decode (mB m_Mo_enter) 174 = .ok (.aload_n 0, 1) := by decide +kernel
theorem d_Mo_enter_175 : decode (mB m_Mo_enter) 175 = .ok (.getfield 99, 3) := by decide +kernel
theorem d_Mo_enter_178 : decode (mB m_Mo_enter) 178 = .ok (.aload_n 0, 1) := by decide +kernel
theorem d_Mo_enter_179 : decode (mB m_Mo_enter) 179 = .ok (.getfield 306, 3) := by decide +kernel
theorem d_Mo_enter_182 : decode (mB m_Mo_enter) 182 = .ok (.lload_n 3, 1) := by decide +kernel
theorem d_Mo_enter_183 : decode (mB m_Mo_enter) 183 = .ok (.lastore, 1) := by decide +kernel
theorem d_Mo_enter_184 : decode (mB m_Mo_enter) 184 = .ok (.aload_n 0, 1) := by decide +kernel
theorem d_Mo_enter_185 : decode (mB m_Mo_enter) 185 = .ok (.getfield 102, 3) := by decide +kernel
theorem d_Mo_enter_188 : decode (mB m_Mo_enter) 188 = .ok (.aload_n 0, 1) := by decide +kernel
theorem d_Mo_enter_189 : decode (mB m_Mo_enter) 189 = .ok (.getfield 306, 3) := by decide +kernel
theorem d_Mo_enter_192 : decode (mB m_Mo_enter) 192 = .ok (.aload_n 0, 1) := by decide +kernel
theorem d_Mo_enter_193 : decode (mB m_Mo_enter) 193 = .ok (.getfield 226, 3) := by decide +kernel
theorem d_Mo_enter_196 : decode (mB m_Mo_enter) 196 = .ok (.iastore, 1) := by decide +kernel
theorem d_Mo_enter_197 : decode (mB m_Mo_enter) 197 = .ok (.aload_n 0, 1) := by decide +kernel
theorem d_Mo_enter_198 : decode (mB m_Mo_enter) 198 = .ok (.dup, 1) := by decide +kernel
theorem d_Mo_enter_199 : decode (mB m_Mo_enter) 199 = .ok (.getfield 306, 3) := by decide +kernel
theorem d_Mo_enter_202 : decode (mB m_Mo_enter) 202 = .ok (.iconst 1, 1) := by decide +kernel
theorem d_Mo_enter_203 : decode (mB m_Mo_enter) 203 = .ok (.iadd, 1) := by decide +kernel
theorem d_Mo_enter_204 : decode (mB m_Mo_enter) 204 = .ok (.putfield 306, 3) := by decide +kernel
theorem d_Mo_enter_207 : decode (mB m_Mo_enter) 207 = .ok (.return_, 1) := by decide +kernel
theorem d_Mo_goOn_0 : decode (mB m_Mo_goOn) 0 = .ok (.aload_n 0, 1) := by decide +kernel
theorem d_Mo_goOn_1 : decode (mB m_Mo_goOn) 1 = .ok (.getfield 306, 3) := by decide +kernel
theorem d_Mo_goOn_4 : decode (mB m_Mo_goOn) 4 = .ok (.iconst 1, 1) := by decide +kernel
theorem d_Mo_goOn_5 : decode (mB m_Mo_goOn) 5 = .ok (.isub, 1) := by decide +kernel
theorem d_Mo_goOn_6 : decode (mB m_Mo_goOn) 6 = .ok (.istore_n 1, 1) := by decide +kernel
theorem d_Mo_goOn_7 : decode (mB m_Mo_goOn) 7 = .ok (.aload_n 0, 1) := by decide +kernel
theorem d_Mo_goOn_8 : decode (mB m_Mo_goOn) 8 = .ok (.getfield 93, 3) := by decide +kernel
theorem d_Mo_goOn_11 : decode (mB m_Mo_goOn) 11 = .ok (.iload_n 1, 1) := by decide +kernel
theorem d_Mo_goOn_12 : decode (mB m_Mo_goOn) 12 = .ok (.iaload, 1) := by decide +kernel
theorem d_Mo_goOn_13 : decode (mB m_Mo_goOn) 13 = .ok (.istore_n 2, 1) := by decide +kernel
theorem d_Mo_goOn_14 : decode (mB m_Mo_goOn) 14 = .ok (.aload_n 0, 1) := by decide +kernel
theorem d_Mo_goOn_15 : decode (mB m_Mo_goOn) 15 = .ok (.getfield 30, 3) := by decide +kernel
theorem d_Mo_goOn_18 : decode (mB m_Mo_goOn) 18 = .ok (.iload_n 2, 1) := by decide +kernel
theorem d_Mo_goOn_19 : decode (mB m_Mo_goOn) 19 = .ok (.iaload, 1) := by decide +kernel
theorem d_Mo_goOn_20 : decode (mB m_Mo_goOn) 20 = .ok (.istore_n 3, 1) := by decide +kernel
theorem d_Mo_goOn_21 : decode (mB m_Mo_goOn) 21 = .ok (.iload_n 3, 1) := by decide +kernel
theorem d_Mo_goOn_22 : decode (mB m_Mo_goOn) 22 = .ok (.bipush 123, 2) := by decide +kernel
theorem d_Mo_goOn_24 : decode (mB m_Mo_goOn) 24 = .ok (.if_icmp .ne 55, 3) := by decide +kernel
theorem d_Mo_goOn_27 : decode (mB m_Mo_goOn) 27 = .ok (.aload_n 0, 1) := by decide +kernel
theorem d_Mo_goOn_28 : decode (mB m_Mo_goOn) 28 = .ok (.getfield 96, 3) := by decide +kernel
theorem d_Mo_goOn_31 : decode (mB m_Mo_goOn) 31 = .ok (.iload_n 1, 1) := by decide +kernel
theorem d_Mo_goOn_32 : decode (mB m_Mo_goOn) 32 = .ok (.iaload, 1) := by decide +kernel
theorem d_Mo_goOn_33 : decode (mB m_Mo_goOn) 33 = .ok (.istore 4, 2) := by decide +kernel
theorem d_Mo_goOn_35 : decode (mB m_Mo_goOn) 35 = .ok (.iload 4, 2) := by decide +kernel
theorem d_Mo_goOn_37 : decode (mB m_Mo_goOn) 37 = .ok (.ifCond .ge 20, 3) := by decide +kernel
theorem d_Mo_goOn_40 : decode (mB m_Mo_goOn) 40 = .ok (.aload_n 0, 1) := by decide +kernel
theorem d_Mo_goOn_41 : decode (mB m_Mo_goOn) 41 = .ok (.invokevirtual 279, 3) := by decide +kernel
theorem d_Mo_goOn_44 : decode (mB m_Mo_goOn) 44 = .ok (.aload_n 0, 1) := by decide +kernel
theorem d_Mo_goOn_45 : decode (mB m_Mo_goOn) 45 = .ok (.dup, 1) := by decide +kernel
theorem d_Mo_goOn_46 : decode (mB m_Mo_goOn) 46 = .ok (.getfield 306, 3) := by decide +kernel
theorem d_Mo_goOn_49 : decode (mB m_Mo_goOn) 49 = .ok (.iconst 1, 1) := by decide +kernel
theorem d_Mo_goOn_50 : decode (mB m_Mo_goOn) 50 = .ok (.isub, 1) := by decide +kernel
theorem d_Mo_goOn_51 : decode (mB m_Mo_goOn) 51 = .ok (.putfield 306, 3) := by decide +kernel
theorem d_Mo_goOn_54 : decode (mB m_Mo_goOn) 54 = .ok (.goto 22, 3) := by decide +kernel
theorem d_Mo_goOn_57 : decode (mB m_Mo_goOn) 57 = .ok (.aload_n 0, 1) := by decide +kernel
theorem d_Mo_goOn_58 : decode (mB m_Mo_goOn) 58 = .ok (.getfield 96, 3) := by decide +kernel
theorem d_Mo_goOn_61 : decode (mB m_Mo_goOn) 61 = .ok (.iload_n 1, 1) := by decide +kernel
theorem d_Mo_goOn_62 : decode (mB m_Mo_goOn) 62 = .ok (.aload_n 0, 1) := by decide +kernel
theorem d_Mo_goOn_63 : decode (mB m_Mo_goOn) 63 = .ok (.getfield 57, 3) := by decide +kernel
theorem d_Mo_goOn_66 : decode (mB m_Mo_goOn) 66 = .ok (.iload 4, 2) := by decide +kernel
theorem d_Mo_goOn_68 : decode (mB m_Mo_goOn) 68 = .ok (.iaload, 1) := by decide +kernel
theorem d_Mo_goOn_69 : decode (mB m_Mo_goOn) 69 = .ok (.iastore, 1) := by decide +kernel
theorem d_Mo_goOn_70 : decode (mB m_Mo_goOn) 70 = .ok (.aload_n 0, 1) := by decide +kernel
theorem d_Mo_goOn_71 : decode (mB m_Mo_goOn) 71 = .ok (.iload 4, 2) := by decide +kernel
theorem d_Mo_goOn_73 : decode (mB m_Mo_goOn) 73 = .ok (.invokevirtual 309, 3) := by decide +kernel
theorem d_Mo_goOn_76 : decode (mB m_Mo_goOn) 76 = .ok (.goto 184, 3) := by decide +kernel
theorem d_Mo_goOn_79 : decode (mB m_Mo_goOn) 79 = .ok (.iload_n 3, 1) := by decide +kernel
theorem d_Mo_goOn_80 : decode (mB m_Mo_goOn) 80 = .ok (.bipush 42, 2) := by decide +kernel
theorem d_Mo_goOn_82 : decode (mB m_Mo_goOn) 82 = .ok (.if_icmp .ne 50, 3) := by decide +kernel
theorem d_Mo_goOn_85 : decode (mB m_Mo_goOn) 85 = .ok (.aload_n 0, 1) := by decide +kernel
theorem d_Mo_goOn_86 : decode (mB m_Mo_goOn) 86 = .ok (.getfield 99, 3) := by decide +kernel
theorem d_Mo_goOn_89 : decode (mB m_Mo_goOn) 89 = .ok (.iload_n 1, 1) := by decide +kernel
theorem d_Mo_goOn_90 : decode (mB m_Mo_goOn) 90 = .ok (.dup2, 1) := by decide +kernel
theorem d_Mo_goOn_91 : decode (mB m_Mo_goOn) 91 = .ok (.laload, 1) := by decide +kernel
theorem d_Mo_goOn_92 : decode (mB m_Mo_goOn) 92 = .ok (.lconst 1, 1) := by decide +kernel
theorem d_Mo_goOn_93 : decode (mB m_Mo_goOn) 93 = .ok (.lsub, 1) := by decide +kernel
theorem d_Mo_goOn_94 : decode (mB m_Mo_goOn) 94 = .ok (.lastore, 1) := by decide +kernel
theorem d_Mo_goOn_95 : decode (mB m_Mo_goOn) 95 = .ok (.aload_n 0, 1) := by decide +kernel
theorem d_Mo_goOn_96 : decode (mB m_Mo_goOn) 96 = .ok (.getfield 99, 3) := by decide +kernel
theorem d_Mo_goOn_99 : decode (mB m_Mo_goOn) 99 = .ok (.iload_n 1, 1) := by decide +kernel
theorem d_Mo_goOn_100 : decode (mB m_Mo_goOn) 100 = .ok (.laload, 1) := by decide +kernel
theorem d_Mo_goOn_101 : decode (mB m_Mo_goOn) 101 = .ok (.lconst 0, 1) := by decide +kernel
theorem d_Mo_goOn_102 : decode (mB m_Mo_goOn) 102 = .ok (.lcmp, 1) := by decide +kernel
theorem d_Mo_goOn_103 : decode (mB m_Mo_goOn) 103 = .ok (.ifCond .ge 16, 3) := by decide +kernel
theorem d_Mo_goOn_106 : decode (mB m_Mo_goOn) 106 = .ok (.aload_n 0, 1) := by decide +kernel
theorem d_Mo_goOn_107 : decode (mB m_Mo_goOn) 107 = .ok (.dup, 1) := by decide +kernel
theorem d_Mo_goOn_108 : decode (mB m_Mo_goOn) 108 = .ok (.getfield 306, 3) := by decide +kernel
theorem d_Mo_goOn_111 : decode (mB m_Mo_goOn) 111 = .ok (.iconst 1, 1) := by decide +kernel
theorem d_Mo_goOn_112 : decode (mB m_Mo_goOn) 112 = .ok (.isub, 1) := by decide +kernel
theorem d_Mo_goOn_113 : decode (mB m_Mo_goOn) 113 = .ok (.putfield 306, 3) := by decide +kernel
theorem d_Mo_goOn_116 : decode (mB m_Mo_goOn) 116 = .ok (.goto 144, 3) := by decide +kernel
theorem d_Mo_goOn_119 : decode (mB m_Mo_goOn) 119 = .ok (.aload_n 0, 1) := by decide +kernel
theorem d_Mo_goOn_120 : decode (mB m_Mo_goOn) 120 = .ok (.aload_n 0, 1) := by decide +kernel
theorem d_Mo_goOn_121 : decode (mB m_Mo_goOn) 121 = .ok (.getfield 54, 3) := by decide +kernel
theorem d_Mo_goOn_124 : decode (mB m_Mo_goOn) 124 = .ok (.iload_n 2, 1) := by decide +kernel
theorem d_Mo_goOn_125 : decode (mB m_Mo_goOn) 125 = .ok (.iaload, 1) := by decide +kernel
theorem d_Mo_goOn_126 : decode (mB m_Mo_goOn) 126 = .ok (.invokevirtual 309, 3) := by decide +kernel
theorem d_Mo_goOn_129 : decode (mB m_Mo_goOn) 129 = .ok (.goto 131, 3) := by decide +kernel
theorem d_Mo_goOn_132 : decode (mB m_Mo_goOn) 132 = .ok (.iload_n 3, 1) := by decide +kernel
theorem d_Mo_goOn_133 : decode (mB m_Mo_goOn) 133 = .ok (.bipush 47, 2) := by decide +kernel
theorem d_Mo_goOn_135 : decode (mB m_Mo_goOn) 135 = .ok (.if_icmp .ne 82, 3) := by decide +kernel
theorem d_Mo_goOn_138 : decode (mB m_Mo_goOn) 138 = .ok (.aload_n 0, 1) := by decide +kernel
theorem d_Mo_goOn_139 : decode (mB m_Mo_goOn) 139 = .ok (.getfield 226, 3) := by decide +kernel
theorem d_Mo_goOn_142 : decode (mB m_Mo_goOn) 142 = .ok (.aload_n 0, 1) := by decide +kernel
theorem d_Mo_goOn_143 : decode (mB m_Mo_goOn) 143 = .ok (.getfield 102, 3) := by decide +kernel
theorem d_Mo_goOn_146 : decode (mB m_Mo_goOn) 146 = .ok (.iload_n 1, 1) := by decide +kernel
theorem d_Mo_goOn_147 : decode (mB m_Mo_goOn) 147 = .ok (.iaload, 1) := by decide +kernel
theorem d_Mo_goOn_148 : decode (mB m_Mo_goOn) 148 = .ok (.isub, 1) := by decide +kernel
theorem d_Mo_goOn_149 : decode (mB m_Mo_goOn) 149 = .ok (.i2l, 1) := by decide +kernel
theorem d_Mo_goOn_150 : decode (mB m_Mo_goOn) 150 = .ok (.aload_n 0, 1) := by decide +kernel
theorem d_Mo_goOn_151 : decode (mB m_Mo_goOn) 151 = .ok (.getfield 99, 3) := by decide +kernel
theorem d_Mo_goOn_154 : decode (mB m_Mo_goOn) 154 = .ok (.iload_n 1, 1) := by decide +kernel
theorem d_Mo_goOn_155 : decode (mB m_Mo_goOn) 155 = .ok (.laload, 1) := by decide +kernel
theorem d_Mo_goOn_156 : decode (mB m_Mo_goOn) 156 = .ok (.lcmp, 1) := by decide +kernel
theorem d_Mo_goOn_157 : decode (mB m_Mo_goOn) 157 = .ok (.ifCond .ge 16, 3) := by decide +kernel
theorem d_Mo_goOn_160 : decode (mB m_Mo_goOn) 160 = .ok (.aload_n 0, 1) := by decide +kernel
theorem d_Mo_goOn_161 : decode (mB m_Mo_goOn) 161 = .ok (.aload_n 0, 1) := by decide +kernel
theorem d_Mo_goOn_162 : decode (mB m_Mo_goOn) 162 = .ok (.getfield 54, 3) := by decide +kernel
theorem d_Mo_goOn_165 : decode (mB m_Mo_goOn) 165 = .ok (.iload_n 2, 1) := by decide +kernel
theorem d_Mo_goOn_166 : decode (mB m_Mo_goOn) 166 = .ok (.iaload, 1) := by decide +kernel
theorem d_Mo_goOn_167 : decode (mB m_Mo_goOn) 167 = .ok (.invokevirtual 309, 3) := by decide +kernel
theorem d_Mo_goOn_170 : decode (mB m_Mo_goOn) 170 = .ok (.goto 90, 3) := by decide +kernel
theorem d_Mo_goOn_173 : decode (mB m_Mo_goOn) 173 = .ok (.aload_n 0, 1) := by decide +kernel
theorem d_Mo_goOn_174 : decode (mB m_Mo_goOn) 174 = .ok (.aload_n 0, 1) := by decide +kernel
theorem d_Mo_goOn_175 : decode (mB m_Mo_goOn) 175 = .ok (.getfield 226, 3) := by decide +kernel
theorem d_Mo_goOn_178 : decode (mB m_Mo_goOn) 178 = .ok (.aload_n 0, 1) := by decide +kernel
theorem d_Mo_goOn_179 : decode (mB m_Mo_goOn) 179 = .ok (.getfield 102, 3) := by decide +kernel
theorem d_Mo_goOn_182 : decode (mB m_Mo_goOn) 182 = .ok (.iload_n 1, 1) := by decide +kernel
theorem d_Mo_goOn_183 : decode (mB m_Mo_goOn) 183 = .ok (.iaload, 1) := by decide +kernel
theorem d_Mo_goOn_184 : decode (mB m_Mo_goOn) 184 = .ok (.isub, 1) := by decide +kernel
theorem d_Mo_goOn_185 : decode (mB m_Mo_goOn) 185 = .ok (.i2l, 1) := by decide +kernel
theorem d_Mo_goOn_186 : decode (mB m_Mo_goOn) 186 = .ok (.aload_n 0, 1) := by decide +kernel
theorem d_Mo_goOn_187 : decode (mB m_Mo_goOn) 187 = .ok (.getfield 99, 3) := by decide +kernel
theorem d_Mo_goOn_190 : decode (mB m_Mo_goOn) 190 = .ok (.iload_n 1, 1) := by decide +kernel
theorem d_Mo_goOn_191 : decode (mB m_Mo_goOn) 191 = .ok (.laload, 1) := by decide +kernel
theorem d_Mo_goOn_192 : decode (mB m_Mo_goOn) 192 = .ok (.lcmp, 1) := by decide +kernel
theorem d_Mo_goOn_193 : decode (mB m_Mo_goOn) 193 = .ok (.ifCond .le 7, 3) := by decide +kernel
theorem d_Mo_goOn_196 : decode (mB m_Mo_goOn) 196 = .ok (.iconst 1, 1) := by decide +kernel
theorem d_Mo_goOn_197 : decode (mB m_Mo_goOn) 197 = .ok (.goto 4, 3) := by decide +kernel
theorem d_Mo_goOn_200 : decode (mB m_Mo_goOn) 200 = .ok (.iconst 0, 1) := by decide +kernel
theorem d_Mo_goOn_201 : decode (mB m_Mo_goOn) 201 = .ok (.invokevirtual 229, 3) := by decide +kernel
theorem d_Mo_goOn_204 : decode (mB m_Mo_goOn) 204 = .ok (.aload_n 0, 1) := by decide +kernel
theorem d_Mo_goOn_205 : decode (mB m_Mo_goOn) 205 = .ok (.dup, 1) := by decide +kernel
theorem d_Mo_goOn_206 : decode (mB m_Mo_goOn) 206 = .ok (.getfield 306, 3) := by decide +kernel
theorem d_Mo_goOn_209 : decode (mB m_Mo_goOn) 209 = .ok (.iconst 1, 1) := by decide +kernel
theorem d_Mo_goOn_210 : decode (mB m_Mo_goOn) 210 = .ok (.isub, 1) := by decide +kernel
theorem d_Mo_goOn_211 : decode (mB m_Mo_goOn) 211 = .ok (.putfield 306, 3) := by decide +kernel
theorem d_Mo_goOn_214 : decode (mB m_Mo_goOn) 214 = .ok (.goto 46, 3) := by decide +kernel
theorem d_Mo_goOn_217 : decode (mB m_Mo_goOn) 217 = .ok (.aload_n 0, 1) := by decide +kernel
theorem d_Mo_goOn_218 : decode (mB m_Mo_goOn) 218 = .ok (.getfield 96, 3) := by decide +kernel
theorem d_Mo_goOn_221 : decode (mB m_Mo_goOn) 221 = .ok (.iload_n 1, 1) := by decide +kernel
theorem d_Mo_goOn_222 : decode (mB m_Mo_goOn) 222 = .ok (.iaload, 1) := by decide +kernel
theorem d_Mo_goOn_223 : decode (mB m_Mo_goOn) 223 = .ok (.ifCond .ge 16, 3) := by decide +kernel
theorem d_Mo_goOn_226 : decode (mB m_Mo_goOn) 226 = .ok (.aload_n 0, 1) := by decide +kernel
theorem d_Mo_goOn_227 : decode (mB m_Mo_goOn) 227 = .ok (.dup, 1) := by decide +kernel
theorem d_Mo_goOn_228 : decode (mB m_Mo_goOn) 228 = .ok (.getfield 306, 3) := by decide +kernel
theorem d_Mo_goOn_231 : decode (mB m_Mo_goOn) 231 = .ok (.iconst 1, 1) := by decide +kernel
theorem d_Mo_goOn_232 : decode (mB m_Mo_goOn) 232 = .ok (.isub, 1) := by decide +kernel
theorem d_Mo_goOn_233 : decode (mB m_Mo_goOn) 233 = .ok (.putfield 306, 3) := by decide +kernel
theorem d_Mo_goOn_236 : decode (mB m_Mo_goOn) 236 = .ok (.goto 24, 3) := by decide +kernel
theorem d_Mo_goOn_239 : decode (mB m_Mo_goOn) 239 = .ok (.aload_n 0, 1) := by decide +kernel
theorem d_Mo_goOn_240 : decode (mB m_Mo_goOn) 240 = .ok (.getfield 96, 3) := by decide +kernel
theorem d_Mo_goOn_243 : decode (mB m_Mo_goOn) 243 = .ok (.iload_n 1, 1) := by decide +kernel
theorem d_Mo_goOn_244 : decode (mB m_Mo_goOn) 244 = .ok (.iaload, 1) := by decide +kernel
theorem d_Mo_goOn_245 : decode (mB m_Mo_goOn) 245 = .ok (.istore 4, 2) := by decide +kernel
theorem d_Mo_goOn_247 : decode (mB m_Mo_goOn) 247 = .ok (.aload_n 0, 1) := by decide +kernel
theorem d_Mo_goOn_248 : decode (mB m_Mo_goOn) 248 = .ok (.getfield 96, 3) := by decide +kernel
theorem d_Mo_goOn_251 : decode (mB m_Mo_goOn) 251 = .ok (.iload_n 1, 1) := by decide +kernel
theorem d_Mo_goOn_252 : decode (mB m_Mo_goOn) 252 = .ok (.iconst (-1), 1) := by decide +kernel
theorem d_Mo_goOn_253 : decode (mB m_Mo_goOn) 253 = .ok (.iastore, 1) := by decide +kernel
theorem d_Mo_goOn_254 : decode (mB m_Mo_goOn) 254 = .ok (.aload_n 0, 1) := by decide +kernel
theorem d_Mo_goOn_255 : decode (mB m_Mo_goOn) 255 = .ok (.iload 4, 2) := by decide +kernel
theorem d_Mo_goOn_257 : decode (mB m_Mo_goOn) 257 = .ok (.invokevirtual 309, 3) := by decide +kernel
theorem d_Mo_goOn_260 : decode (mB m_Mo_goOn) 260 = .ok (.return_, 1) := by decide +kernel
theorem d_Mo_pass_0 : decode (mB m_Mo_pass) 0 = .ok (.aload_n 0, 1) := by decide +kernel
theorem d_Mo_pass_1 : decode (mB m_Mo_pass) 1 = .ok (.invokevirtual 217, 3) := by decide +kernel
theorem d_Mo_pass_4 : decode (mB m_Mo_pass) 4 = .ok (.aload_n 0, 1) := by decide +kernel
theorem d_Mo_pass_5 : decode (mB m_Mo_pass) 5 = .ok (.iload_n 1, 1) := by decide +kernel
theorem d_Mo_pass_6 : decode (mB m_Mo_pass) 6 = .ok (.putfield 242, 3) := by decide +kernel
theorem d_Mo_pass_9 : decode (mB m_Mo_pass) 9 = .ok (.aload_n 0, 1) := by decide +kernel
theorem d_Mo_pass_10 : decode (mB m_Mo_pass) 10 = .ok (.iconst 0, 1) := by decide +kernel
theorem d_Mo_pass_11 : decode (mB m_Mo_pass) 11 = .ok (.putfield 223, 3) := by decide +kernel
theorem d_Mo_pass_14 : decode (mB m_Mo_pass) 14 = .ok (.aload_n 0, 1) := by decide +kernel
theorem d_Mo_pass_15 : decode (mB m_Mo_pass) 15 = .ok (.iconst 0, 1) := by decide +kernel
theorem d_Mo_pass_16 : decode (mB m_Mo_pass) 16 = .ok (.putfield 226, 3) := by decide +kernel
theorem d_Mo_pass_19 : decode (mB m_Mo_pass) 19 = .ok (.aload_n 0, 1) := by decide +kernel
theorem d_Mo_pass_20 : decode (mB m_Mo_pass) 20 = .ok (.bipush 8, 2) := by decide +kernel
theorem d_Mo_pass_22 : decode (mB m_Mo_pass) 22 = .ok (.putfield 239, 3) := by decide +kernel
theorem d_Mo_pass_25 : decode (mB m_Mo_pass) 25 = .ok (.aload_n 0, 1) := by decide +kernel
theorem d_Mo_pass_26 : decode (mB m_Mo_pass) 26 = .ok (.iconst 0, 1) := by decide +kernel
theorem d_Mo_pass_27 : decode (mB m_Mo_pass) 27 = .ok (.putfield 233, 3) := by decide +kernel
theorem d_Mo_pass_30 : decode (mB m_Mo_pass) 30 = .ok (.aload_n 0, 1) := by decide +kernel
theorem d_Mo_pass_31 : decode (mB m_Mo_pass) 31 = .ok (.iconst 0, 1) := by decide +kernel
theorem d_Mo_pass_32 : decode (mB m_Mo_pass) 32 = .ok (.putfield 306, 3) := by decide +kernel
theorem d_Mo_pass_35 : decode (mB m_Mo_pass) 35 = .ok (.aload_n 0, 1) := by decide +kernel
theorem d_Mo_pass_36 : decode (mB m_Mo_pass) 36 = .ok (.iconst (-1), 1) := by decide +kernel
theorem d_Mo_pass_37 : decode (mB m_Mo_pass) 37 = .ok (.putfield 282, 3) := by decide +kernel
theorem d_Mo_pass_40 : decode (mB m_Mo_pass) 40 = .ok (.aload_n 0, 1) := by decide +kernel
theorem d_Mo_pass_41 : decode (mB m_Mo_pass) 41 = .ok (.iconst (-1), 1) := by decide +kernel
theorem d_Mo_pass_42 : decode (mB m_Mo_pass) 42 = .ok (.putfield 288, 3) := by decide +kernel
theorem d_Mo_pass_45 : decode (mB m_Mo_pass) 45 = .ok (.aload_n 0, 1) := by decide +kernel
theorem d_Mo_pass_46 : decode (mB m_Mo_pass) 46 = .ok (.iconst 0, 1) := by decide +kernel
theorem d_Mo_pass_47 : decode (mB m_Mo_pass) 47 = .ok (.invokevirtual 309, 3) := by decide +kernel
theorem d_Mo_pass_50 : decode (mB m_Mo_pass) 50 = .ok (.aload_n 0, 1) := by decide +kernel
theorem d_Mo_pass_51 : decode (mB m_Mo_pass) 51 = .ok (.getfield 306, 3) := by decide +kernel
theorem d_Mo_pass_54 : decode (mB m_Mo_pass) 54 = .ok (.ifCond .le 17, 3) := by decide +kernel
theorem d_Mo_pass_57 : decode (mB m_Mo_pass) 57 = .ok (.aload_n 0, 1) := by decide +kernel
theorem d_Mo_pass_58 : decode (mB m_Mo_pass) 58 = .ok (.getfield 223, 3) := by decide +kernel
theorem d_Mo_pass_61 : decode (mB m_Mo_pass) 61 = .ok (.ifCond .ne 10, 3) := by decide +kernel
theorem d_Mo_pass_64 : decode (mB m_Mo_pass) 64 = .ok (.aload_n 0, 1) := by decide +kernel
theorem d_Mo_pass_65 : decode (mB m_Mo_pass) 65 = .ok (.invokevirtual 312, 3) := by decide +kernel
theorem d_Mo_pass_68 : decode (mB m_Mo_pass) 68 = .ok (.goto (-18), 3) := by decide +kernel
theorem d_Mo_pass_71 : decode (mB m_Mo_pass) 71 = .ok (.return_, 1) := by decide +kernel
theorem d_Mo_read_0 : decode (mB m_Mo_read) 0 = .ok (.aload_n 0, 1) := by decide +kernel
theorem d_Mo_read_1 : decode (mB m_Mo_read) 1 = .ok (.iconst 0, 1) := by decide +kernel
theorem d_Mo_read_2 : decode (mB m_Mo_read) 2 = .ok (.putfield 111, 3) := by decide +kernel
theorem d_Mo_read_5 : decode (mB m_Mo_read) 5 = .ok (.aload_n 0, 1) := by decide +kernel
theorem d_Mo_read_6 : decode (mB m_Mo_read) 6 = .ok (.getfield 210, 3) := by decide +kernel
theorem d_Mo_read_9 : decode (mB m_Mo_read) 9 = .ok (.ifCond .ne 9, 3) := by decide +kernel
theorem d_Mo_read_12 : decode (mB m_Mo_read) 12 = .ok (.aload_n 0, 1) := by decide +kernel
theorem d_Mo_read_13 : decode (mB m_Mo_read) 13 = .ok (.iconst 1, 1) := by decide +kernel
theorem d_Mo_read_14 : decode (mB m_Mo_read) 14 = .ok (.invokevirtual 114, 3) := by decide +kernel
theorem d_Mo_read_17 : decode (mB m_Mo_read) 17 = .ok (.ireturn, 1) := by decide +kernel
theorem d_Mo_read_18 : decode (mB m_Mo_read) 18 = .ok (.aload_n 0, 1) := by decide +kernel
theorem d_Mo_read_19 : decode (mB m_Mo_read) 19 = .ok (.iconst 0, 1) := by decide +kernel
theorem d_Mo_read_20 : decode (mB m_Mo_read) 20 = .ok (.invokevirtual 315, 3) := by decide +kernel
theorem d_Mo_read_23 : decode (mB m_Mo_read) 23 = .ok (.aload_n 0, 1) := by decide +kernel
theorem d_Mo_read_24 : decode (mB m_Mo_read) 24 = .ok (.getfield 223, 3) := by decide +kernel
theorem d_Mo_read_27 : decode (mB m_Mo_read) 27 = .ok (.ifCond .ne 33, 3) := by decide +kernel
theorem d_Mo_read_30 : decode (mB m_Mo_read) 30 = .ok (.aload_n 0, 1) := by decide +kernel
theorem d_Mo_read_31 : decode (mB m_Mo_read) 31 = .ok (.getfield 226, 3) := by decide +kernel
theorem d_Mo_read_34 : decode (mB m_Mo_read) 34 = .ok (.aload_n 0, 1) := by decide +kernel
theorem d_Mo_read_35 : decode (mB m_Mo_read) 35 = .ok (.getfield 220, 3) := by decide +kernel
theorem d_Mo_read_38 : decode (mB m_Mo_read) 38 = .ok (.if_icmp .ge 22, 3) := by decide +kernel
theorem d_Mo_read_41 : decode (mB m_Mo_read) 41 = .ok (.aload_n 0, 1) := by decide +kernel
theorem d_Mo_read_42 : decode (mB m_Mo_read) 42 = .ok (.aload_n 0, 1) := by decide +kernel
theorem d_Mo_read_43 : decode (mB m_Mo_read) 43 = .ok (.getfield 226, 3) := by decide +kernel
theorem d_Mo_read_46 : decode (mB m_Mo_read) 46 = .ok (.putfield 23, 3) := by decide +kernel
theorem d_Mo_read_49 : decode (mB m_Mo_read) 49 = .ok (.aload_n 0, 1) := by decide +kernel
theorem d_Mo_read_50 : decode (mB m_Mo_read) 50 = .ok (.iconst (-1), 1) := by decide +kernel
theorem d_Mo_read_51 : decode (mB m_Mo_read) 51 = .ok (.putfield 27, 3) := by decide +kernel
theorem d_Mo_read_54 : decode (mB m_Mo_read) 54 = .ok (.aload_n 0, 1) := by decide +kernel
theorem d_Mo_read_55 : decode (mB m_Mo_read) 55 = .ok (.iconst 4, 1) := by decide +kernel
theorem d_Mo_read_56 : decode (mB m_Mo_read) 56 = .ok (.invokevirtual 114, 3) := by decide +kernel
theorem d_Mo_read_59 : decode (mB m_Mo_read) 59 = .ok (.ireturn, 1) := by decide +kernel
theorem d_Mo_read_60 : decode (mB m_Mo_read) 60 = .ok (.aload_n 0, 1) := by decide +kernel
theorem d_Mo_read_61 : decode (mB m_Mo_read) 61 = .ok (.getfield 223, 3) := by decide +kernel
theorem d_Mo_read_64 : decode (mB m_Mo_read) 64 = .ok (.ifCond .le 28, 3) := by decide +kernel
theorem d_Mo_read_67 : decode (mB m_Mo_read) 67 = .ok (.aload_n 0, 1) := by decide +kernel
theorem d_Mo_read_68 : decode (mB m_Mo_read) 68 = .ok (.aload_n 0, 1) := by decide +kernel
theorem d_Mo_read_69 : decode (mB m_Mo_read) 69 = .ok (.getfield 282, 3) := by decide +kernel
theorem d_Mo_read_72 : decode (mB m_Mo_read) 72 = .ok (.putfield 23, 3) := by decide +kernel
theorem d_Mo_read_75 : decode (mB m_Mo_read) 75 = .ok (.aload_n 0, 1) := by decide +kernel
theorem d_Mo_read_76 : decode (mB m_Mo_read) 76 = .ok (.aload_n 0, 1) := by decide +kernel
theorem d_Mo_read_77 : decode (mB m_Mo_read) 77 = .ok (.getfield 288, 3) := by decide +kernel
theorem d_Mo_read_80 : decode (mB m_Mo_read) 80 = .ok (.putfield 27, 3) := by decide +kernel
theorem d_Mo_read_83 : decode (mB m_Mo_read) 83 = .ok (.aload_n 0, 1) := by decide +kernel
theorem d_Mo_read_84 : decode (mB m_Mo_read) 84 = .ok (.aload_n 0, 1) := by decide +kernel
theorem d_Mo_read_85 : decode (mB m_Mo_read) 85 = .ok (.getfield 223, 3) := by decide +kernel
theorem d_Mo_read_88 : decode (mB m_Mo_read) 88 = .ok (.invokevirtual 114, 3) := by decide +kernel
theorem d_Mo_read_91 : decode (mB m_Mo_read) 91 = .ok (.ireturn, 1) := by decide +kernel
theorem d_Mo_read_92 : decode (mB m_Mo_read) 92 = .ok (.aload_n 0, 1) := by decide +kernel
theorem d_Mo_read_93 : decode (mB m_Mo_read) 93 = .ok (.aload_n 0, 1) := by decide +kernel
theorem d_Mo_read_94 : decode (mB m_Mo_read) 94 = .ok (.getfield 233, 3) := by decide +kernel
theorem d_Mo_read_97 : decode (mB m_Mo_read) 97 = .ok (.putfield 236, 3) := by decide +kernel
theorem d_Mo_read_100 : decode (mB m_Mo_read) 100 = .ok (.iconst 0, 1) := by decide +kernel
theorem d_Mo_read_101 : decode (mB m_Mo_read) 101 = .ok (.istore_n 1, 1) := by decide +kernel
theorem d_Mo_read_102 : decode (mB m_Mo_read) 102 = .ok (.iload_n 1, 1) := by decide +kernel
theorem d_Mo_read_103 : decode (mB m_Mo_read) 103 = .ok (.aload_n 0, 1) := by decide +kernel
theorem d_Mo_read_104 : decode (mB m_Mo_read) 104 = .ok (.getfield 236, 3) := by decide +kernel
theorem d_Mo_read_107 : decode (mB m_Mo_read) 107 = .ok (.if_icmp .ge 21, 3) := by decide +kernel
theorem d_Mo_read_110 : decode (mB m_Mo_read) 110 = .ok (.aload_n 0, 1) := by decide +kernel
theorem d_Mo_read_111 : decode (mB m_Mo_read) 111 = .ok (.getfield 19, 3) := by decide +kernel
theorem d_Mo_read_114 : decode (mB m_Mo_read) 114 = .ok (.iload_n 1, 1) := by decide +kernel
theorem d_Mo_read_115 : decode (mB m_Mo_read) 115 = .ok (.aload_n 0, 1) := by decide +kernel
theorem d_Mo_read_116 : decode (mB m_Mo_read) 116 = .ok (.getfield 108, 3) := by decide +kernel
theorem d_Mo_read_119 : decode (mB m_Mo_read) 119 = .ok (.iload_n 1, 1) := by decide +kernel
theorem d_Mo_read_120 : decode (mB m_Mo_read) 120 = .ok (.laload, 1) := by decide +kernel
theorem d_Mo_read_121 : decode (mB m_Mo_read) 121 = .ok (.lastore, 1) := by decide +kernel
theorem d_Mo_read_122 : decode (mB m_Mo_read) 122 = .ok (.iinc 1 1, 3) := by decide +kernel
theorem d_Mo_read_125 : decode (mB m_Mo_read) 125 = .ok (.goto (-23), 3) := by decide +kernel
theorem d_Mo_read_128 : decode (mB m_Mo_read) 128 = .ok (.aload_n 0, 1) := by decide +kernel
theorem d_Mo_read_129 : decode (mB m_Mo_read) 129 = .ok (.getfield 236, 3) := by decide +kernel
theorem d_Mo_read_132 : decode (mB m_Mo_read) 132 = .ok (.ireturn, 1) := by decide +kernel
theorem d_Mo_write_0 : decode (mB m_Mo_write) 0 = .ok (.aload_n 0, 1) := by decide +kernel
theorem d_Mo_write_1 : decode (mB m_Mo_write) 1 = .ok (.iconst 0, 1) := by decide +kernel
theorem d_Mo_write_2 : decode (mB m_Mo_write) 2 = .ok (.putfield 111, 3) := by decide +kernel
theorem d_Mo_write_5 : decode (mB m_Mo_write) 5 = .ok (.aload_n 0, 1) := by decide +kernel
theorem d_Mo_write_6 : decode (mB m_Mo_write) 6 = .ok (.getfield 210, 3) := by decide +kernel
theorem d_Mo_write_9 : decode (mB m_Mo_write) 9 = .ok (.ifCond .ne 9, 3) := by decide +kernel
theorem d_Mo_write_12 : decode (mB m_Mo_write) 12 = .ok (.aload_n 0, 1) := by decide +kernel
theorem d_Mo_write_13 : decode (mB m_Mo_write) 13 = .ok (.iconst 1, 1) := by decide +kernel
theorem d_Mo_write_14 : decode (mB m_Mo_write) 14 = .ok (.invokevirtual 114, 3) := by decide +kernel
theorem d_Mo_write_17 : decode (mB m_Mo_write) 17 = .ok (.ireturn, 1) := by decide +kernel
theorem d_Mo_write_18 : decode (mB m_Mo_write) 18 = .ok (.aload_n 0, 1) := by decide +kernel
theorem d_Mo_write_19 : decode (mB m_Mo_write) 19 = .ok (.iconst 1, 1) := by decide +kernel
theorem d_Mo_write_20 : decode (mB m_Mo_write) 20 = .ok (.invokevirtual 315, 3) := by decide +kernel
theorem d_Mo_write_23 : decode (mB m_Mo_write) 23 = .ok (.aload_n 0, 1) := by decide +kernel
theorem d_Mo_write_24 : decode (mB m_Mo_write) 24 = .ok (.getfield 223, 3) := by decide +kernel
theorem d_Mo_write_27 : decode (mB m_Mo_write) 27 = .ok (.ifCond .le 28, 3) := by decide +kernel
theorem d_Mo_write_30 : decode (mB m_Mo_write) 30 = .ok (.aload_n 0, 1) := by decide +kernel
theorem d_Mo_write_31 : decode (mB m_Mo_write) 31 = .ok (.aload_n 0, 1) := by decide +kernel
theorem d_Mo_write_32 : decode (mB m_Mo_write) 32 = .ok (.getfield 282, 3) := by decide +kernel
theorem d_Mo_write_35 : decode (mB m_Mo_write) 35 = .ok (.putfield 23, 3) := by decide +kernel
theorem d_Mo_write_38 : decode (mB m_Mo_write) 38 = .ok (.aload_n 0, 1) := by decide +kernel
theorem d_Mo_write_39 : decode (mB m_Mo_write) 39 = .ok (.aload_n 0, 1) := by decide +kernel
theorem d_Mo_write_40 : decode (mB m_Mo_write) 40 = .ok (.getfield 288, 3) := by decide +kernel
theorem d_Mo_write_43 : decode (mB m_Mo_write) 43 = .ok (.putfield 27, 3) := by decide +kernel
theorem d_Mo_write_46 : decode (mB m_Mo_write) 46 = .ok (.aload_n 0, 1) := by decide +kernel
theorem d_Mo_write_47 : decode (mB m_Mo_write) 47 = .ok (.aload_n 0, 1) := by decide +kernel
theorem d_Mo_write_48 : decode (mB m_Mo_write) 48 = .ok (.getfield 223, 3) := by decide +kernel
theorem d_Mo_write_51 : decode (mB m_Mo_write) 51 = .ok (.invokevirtual 114, 3) := by decide +kernel
theorem d_Mo_write_54 : decode (mB m_Mo_write) 54 = .ok (.ireturn, 1) := by decide +kernel
theorem d_Mo_write_55 : decode (mB m_Mo_write) 55 = .ok (.aload_n 0, 1) := by decide +kernel
theorem d_Mo_write_56 : decode (mB m_Mo_write) 56 = .ok (.getfield 233, 3) := by decide +kernel
theorem d_Mo_write_59 : decode (mB m_Mo_write) 59 = .ok (.aload_n 0, 1) := by decide +kernel
theorem d_Mo_write_60 : decode (mB m_Mo_write) 60 = .ok (.getfield 236, 3) := by decide +kernel
theorem d_Mo_write_63 : decode (mB m_Mo_write) 63 = .ok (.if_icmp .ge 9, 3) := by decide +kernel
theorem d_Mo_write_66 : decode (mB m_Mo_write) 66 = .ok (.aload_n 0, 1) := by decide +kernel
theorem d_Mo_write_67 : decode (mB m_Mo_write) 67 = .ok (.iconst 4, 1) := by decide +kernel
theorem d_Mo_write_68 : decode (mB m_Mo_write) 68 = .ok (.invokevirtual 114, 3) := by decide +kernel
theorem d_Mo_write_71 : decode (mB m_Mo_write) 71 = .ok (.ireturn, 1) := by decide +kernel
theorem d_Mo_write_72 : decode (mB m_Mo_write) 72 = .ok (.aload_n 0, 1) := by decide +kernel
theorem d_Mo_write_73 : decode (mB m_Mo_write) 73 = .ok (.aload_n 0, 1) := by decide +kernel
theorem d_Mo_write_74 : decode (mB m_Mo_write) 74 = .ok (.getfield 226, 3) := by decide +kernel
theorem d_Mo_write_77 : decode (mB m_Mo_write) 77 = .ok (.putfield 220, 3) := by decide +kernel
theorem d_Mo_write_80 : decode (mB m_Mo_write) 80 = .ok (.iconst 0, 1) := by decide +kernel
theorem d_Mo_write_81 : decode (mB m_Mo_write) 81 = .ok (.istore_n 1, 1) := by decide +kernel
theorem d_Mo_write_82 : decode (mB m_Mo_write) 82 = .ok (.iload_n 1, 1) := by decide +kernel
theorem d_Mo_write_83 : decode (mB m_Mo_write) 83 = .ok (.aload_n 0, 1) := by decide +kernel
theorem d_Mo_write_84 : decode (mB m_Mo_write) 84 = .ok (.getfield 220, 3) := by decide +kernel
theorem d_Mo_write_87 : decode (mB m_Mo_write) 87 = .ok (.if_icmp .ge 21, 3) := by decide +kernel
theorem d_Mo_write_90 : decode (mB m_Mo_write) 90 = .ok (.aload_n 0, 1) := by decide +kernel
theorem d_Mo_write_91 : decode (mB m_Mo_write) 91 = .ok (.getfield 16, 3) := by decide +kernel
theorem d_Mo_write_94 : decode (mB m_Mo_write) 94 = .ok (.iload_n 1, 1) := by decide +kernel
theorem d_Mo_write_95 : decode (mB m_Mo_write) 95 = .ok (.aload_n 0, 1) := by decide +kernel
theorem d_Mo_write_96 : decode (mB m_Mo_write) 96 = .ok (.getfield 105, 3) := by decide +kernel
theorem d_Mo_write_99 : decode (mB m_Mo_write) 99 = .ok (.iload_n 1, 1) := by decide +kernel
theorem d_Mo_write_100 : decode (mB m_Mo_write) 100 = .ok (.iaload, 1) := by decide +kernel
theorem d_Mo_write_101 : decode (mB m_Mo_write) 101 = .ok (.iastore, 1) := by decide +kernel
theorem d_Mo_write_102 : decode (mB m_Mo_write) 102 = .ok (.iinc 1 1, 3) := by decide +kernel
theorem d_Mo_write_105 : decode (mB m_Mo_write) 105 = .ok (.goto (-23), 3) := by decide +kernel
theorem d_Mo_write_108 : decode (mB m_Mo_write) 108 = .ok (.aload_n 0, 1) := by decide +kernel
theorem d_Mo_write_109 : decode (mB m_Mo_write) 109 = .ok (.getfield 220, 3) := by decide +kernel
theorem d_Mo_write_112 : decode (mB m_Mo_write) 112 = .ok (.ireturn, 1) := by decide +kernel
theorem d_Mo_value_0 : decode (mB m_Mo_value) 0 = .ok (.aload_n 0, 1) := by decide +kernel
theorem d_Mo_value_1 : decode (mB m_Mo_value) 1 = .ok (.iconst 0, 1) := by decide +kernel
theorem d_Mo_value_2 : decode (mB m_Mo_value) 2 = .ok (.putfield 111, 3) := by decide +kernel
theorem d_Mo_value_5 : decode (mB m_Mo_value) 5 = .ok (.aload_n 0, 1) := by decide +kernel
theorem d_Mo_value_6 : decode (mB m_Mo_value) 6 = .ok (.iload_n 1, 1) := by decide +kernel
theorem d_Mo_value_7 : decode (mB m_Mo_value) 7 = .ok (.aload_n 0, 1) := by decide +kernel
theorem d_Mo_value_8 : decode (mB m_Mo_value) 8 = .ok (.getfield 236, 3) := by decide +kernel
theorem d_Mo_value_11 : decode (mB m_Mo_value) 11 = .ok (.invokevirtual 318, 3) := by decide +kernel
theorem d_Mo_value_14 : decode (mB m_Mo_value) 14 = .ok (.ifCond .eq 12, 3) := by decide +kernel
theorem d_Mo_value_17 : decode (mB m_Mo_value) 17 = .ok (.aload_n 0, 1) := by decide +kernel
theorem d_Mo_value_18 : decode (mB m_Mo_value) 18 = .ok (.iconst 1, 1) := by decide +kernel
theorem d_Mo_value_19 : decode (mB m_Mo_value) 19 = .ok (.invokevirtual 114, 3) := by decide +kernel
theorem d_Mo_value_22 : decode (mB m_Mo_value) 22 = .ok (.i2l, 1) := by decide +kernel
theorem d_Mo_value_23 : decode (mB m_Mo_value) 23 = .ok (.goto 9, 3) := by decide +kernel
theorem d_Mo_value_26 : decode (mB m_Mo_value) 26 = .ok (.aload_n 0, 1) := by decide +kernel
theorem d_Mo_value_27 : decode (mB m_Mo_value) 27 = .ok (.getfield 19, 3) := by decide +kernel
theorem d_Mo_value_30 : decode (mB m_Mo_value) 30 = .ok (.iload_n 1, 1) := by decide +kernel
theorem d_Mo_value_31 : decode (mB m_Mo_value) 31 = .ok (.laload, 1) := by decide +kernel
theorem d_Mo_value_32 : decode (mB m_Mo_value) 32 = .ok (.lreturn, 1) := by decide +kernel
theorem d_Mo_real_0 : decode (mB m_Mo_real) 0 = .ok (.aload_n 0, 1) := by decide +kernel
theorem d_Mo_real_1 : decode (mB m_Mo_real) 1 = .ok (.iconst 0, 1) := by decide +kernel
theorem d_Mo_real_2 : decode (mB m_Mo_real) 2 = .ok (.putfield 111, 3) := by decide +kernel
theorem d_Mo_real_5 : decode (mB m_Mo_real) 5 = .ok (.aload_n 0, 1) := by decide +kernel
theorem d_Mo_real_6 : decode (mB m_Mo_real) 6 = .ok (.iload_n 1, 1) := by decide +kernel
theorem d_Mo_real_7 : decode (mB m_Mo_real) 7 = .ok (.aload_n 0, 1) := by decide +kernel
theorem d_Mo_real_8 : decode (mB m_Mo_real) 8 = .ok (.getfield 236, 3) := by decide +kernel
theorem d_Mo_real_11 : decode (mB m_Mo_real) 11 = .ok (.invokevirtual 318, 3) := by decide +kernel
theorem d_Mo_real_14 : decode (mB m_Mo_real) 14 = .ok (.ifCond .eq 10, 3) := by decide +kernel
theorem d_Mo_real_17 : decode (mB m_Mo_real) 17 = .ok (.aload_n 0, 1) := by decide +kernel
theorem d_Mo_real_18 : decode (mB m_Mo_real) 18 = .ok (.iconst 1, 1) := by decide +kernel
theorem d_Mo_real_19 : decode (mB m_Mo_real) 19 = .ok (.invokevirtual 114, 3) := by decide +kernel
theorem d_Mo_real_22 : decode (mB m_Mo_real) 22 = .ok (.i2d, 1) := by decide +kernel
theorem d_Mo_real_23 : decode (mB m_Mo_real) 23 = .ok (.dreturn, 1) := by decide +kernel
theorem d_Mo_real_24 : decode (mB m_Mo_real) 24 = .ok (.aload_n 0, 1) := by decide +kernel
theorem d_Mo_real_25 : decode (mB m_Mo_real) 25 = .ok (.getfield 19, 3) := by decide +kernel
theorem d_Mo_real_28 : decode (mB m_Mo_real) 28 = .ok (.iload_n 1, 1) := by decide +kernel
theorem d_Mo_real_29 : decode (mB m_Mo_real) 29 = .ok (.laload, 1) := by decide +kernel
theorem d_Mo_real_30 : decode (mB m_Mo_real) 30 = .ok (.lstore_n 2, 1) := by decide +kernel
theorem d_Mo_real_31 : decode (mB m_Mo_real) 31 = .ok (.lload_n 2, 1) := by decide +kernel
theorem d_Mo_real_32 : decode (mB m_Mo_real) 32 = .ok (.bipush 52, 2) := by decide +kernel
theorem d_Mo_real_34 : decode (mB m_Mo_real) 34 = .ok (.lshr, 1) := by decide +kernel
theorem d_Mo_real_35 : decode (mB m_Mo_real) 35 = .ok (.ldc2_w 322, 3) := by decide +kernel
theorem d_Mo_real_38 : decode (mB m_Mo_real) 38 = .ok (.land, 1) := by decide +kernel
theorem d_Mo_real_39 : decode (mB m_Mo_real) 39 = .ok (.lstore 4, 2) := by decide +kernel
theorem d_Mo_real_41 : decode (mB m_Mo_real) 41 = .ok (.lload_n 2, 1) := by decide +kernel
theorem d_Mo_real_42 : decode (mB m_Mo_real) 42 = .ok (.ldc2_w 324, 3) := by decide +kernel
theorem d_Mo_real_45 : decode (mB m_Mo_real) 45 = .ok (.land, 1) := by decide +kernel
theorem d_Mo_real_46 : decode (mB m_Mo_real) 46 = .ok (.lstore 6, 2) := by decide +kernel
theorem d_Mo_real_48 : decode (mB m_Mo_real) 48 = .ok (.lload 4, 2) := by decide +kernel
theorem d_Mo_real_50 : decode (mB m_Mo_real) 50 = .ok (.ldc2_w 322, 3) := by decide +kernel
theorem d_Mo_real_53 : decode (mB m_Mo_real) 53 = .ok (.lcmp, 1) := by decide +kernel
theorem d_Mo_real_54 : decode (mB m_Mo_real) 54 = .ok (.ifCond .ne 12, 3) := by decide +kernel
theorem d_Mo_real_57 : decode (mB m_Mo_real) 57 = .ok (.lload 6, 2) := by decide +kernel
theorem d_Mo_real_59 : decode (mB m_Mo_real) 59 = .ok (.lconst 0, 1) := by decide +kernel
theorem d_Mo_real_60 : decode (mB m_Mo_real) 60 = .ok (.lcmp, 1) := by decide +kernel
theorem d_Mo_real_61 : decode (mB m_Mo_real) 61 = .ok (.ifCond .eq 5, 3) := by decide +kernel
theorem d_Mo_real_64 : decode (mB m_Mo_real) 64 = .ok (.dconst 0, 1) := by decide +kernel
theorem d_Mo_real_65 : decode (mB m_Mo_real) 65 = .ok (.dreturn, 1) := by decide +kernel
theorem d_Mo_real_66 : decode (mB m_Mo_real) 66 = .ok (.lload 4, 2) := by decide +kernel
theorem d_Mo_real_68 : decode (mB m_Mo_real) 68 = .ok (.ldc2_w 322, 3) := by decide +kernel
theorem d_Mo_real_71 : decode (mB m_Mo_real) 71 = .ok (.lcmp, 1) := by decide +kernel
theorem d_Mo_real_72 : decode (mB m_Mo_real) 72 = .ok (.ifCond .ne 9, 3) := by decide +kernel
theorem d_Mo_real_75 : decode (mB m_Mo_real) 75 = .ok (.ldc2_w 326, 3) := by decide +kernel
theorem d_Mo_real_78 : decode (mB m_Mo_real) 78 = .ok (.goto 6, 3) := by decide +kernel
theorem d_Mo_real_81 : decode (mB m_Mo_real) 81 = .ok (.lload 6, 2) := by decide +kernel
theorem d_Mo_real_83 : decode (mB m_Mo_real) 83 = .ok (.l2d, 1) := by decide +kernel
theorem d_Mo_real_84 : decode (mB m_Mo_real) 84 = .ok (.dstore 8, 2) := by decide +kernel
theorem d_Mo_real_86 : decode (mB m_Mo_real) 86 = .ok (.lload 4, 2) := by decide +kernel
theorem d_Mo_real_88 : decode (mB m_Mo_real) 88 = .ok (.ldc2_w 322, 3) := by decide +kernel
theorem d_Mo_real_91 : decode (mB m_Mo_real) 91 = .ok (.lcmp, 1) := by decide +kernel
theorem d_Mo_real_92 : decode (mB m_Mo_real) 92 = .ok (.ifCond .ge 88, 3) := by decide +kernel
theorem d_Mo_real_95 : decode (mB m_Mo_real) 95 = .ok (.lload 4, 2) := by decide +kernel
theorem d_Mo_real_97 : decode (mB m_Mo_real) 97 = .ok (.lconst 0, 1) := by decide +kernel
theorem d_Mo_real_98 : decode (mB m_Mo_real) 98 = .ok (.lcmp, 1) := by decide +kernel
theorem d_Mo_real_99 : decode (mB m_Mo_real) 99 = .ok (.ifCond .le 11, 3) := by decide +kernel
theorem d_Mo_real_102 : decode (mB m_Mo_real) 102 = .ok (.dload 8, 2) := by decide +kernel
theorem d_Mo_real_104 : decode (mB m_Mo_real) 104 = .ok (.ldc2_w 328, 3) := by decide +kernel
theorem d_Mo_real_107 : decode (mB m_Mo_real) 107 = .ok (.dadd, 1) := by decide +kernel
theorem d_Mo_real_108 : decode (mB m_Mo_real) 108 = .ok (.dstore 8, 2) := by decide +kernel
theorem d_Mo_real_110 : decode (mB m_Mo_real) 110 = .ok (.lload 4, 2) := by decide +kernel
theorem d_Mo_real_112 : decode (mB m_Mo_real) 112 = .ok (.lconst 0, 1) := by decide +kernel
theorem d_Mo_real_113 : decode (mB m_Mo_real) 113 = .ok (.lcmp, 1) := by decide +kernel
theorem d_Mo_real_114 : decode (mB m_Mo_real) 114 = .ok (.ifCond .ne 7, 3) := by decide +kernel
theorem d_Mo_real_117 : decode (mB m_Mo_real) 117 = .ok (.iconst 0, 1) := by decide +kernel
theorem d_Mo_real_118 : decode (mB m_Mo_real) 118 = .ok (.goto 8, 3) := by decide +kernel
theorem d_Mo_real_121 : decode (mB m_Mo_real) 121 = .ok (.lload 4, 2) := by decide +kernel
theorem d_Mo_real_123 : decode (mB m_Mo_real) 123 = .ok (.l2i, 1) := by decide +kernel
theorem d_Mo_real_124 : decode (mB m_Mo_real) 124 = .ok (.iconst 1, 1) := by decide +kernel
theorem d_Mo_real_125 : decode (mB m_Mo_real) 125 = .ok (.isub, 1) := by decide +kernel
theorem d_Mo_real_126 : decode (mB m_Mo_real) 126 = .ok (.sipush 1074, 3) := by decide +kernel
theorem d_Mo_real_129 : decode (mB m_Mo_real) 129 = .ok (.isub, 1) := by decide +kernel
theorem d_Mo_real_130 : decode (mB m_Mo_real) 130 = .ok (.istore 10, 2) := by decide +kernel
theorem d_Mo_real_132 : decode (mB m_Mo_real) 132 = .ok (.iconst 0, 1) := by decide +kernel
theorem d_Mo_real_133 : decode (mB m_Mo_real) 133 = .ok (.istore 11, 2) := by decide +kernel
theorem d_Mo_real_135 : decode (mB m_Mo_real) 135 = .ok (.iload 11, 2) := by decide +kernel
theorem d_Mo_real_137 : decode (mB m_Mo_real) 137 = .ok (.iload 10, 2) := by decide +kernel
theorem d_Mo_real_139 : decode (mB m_Mo_real) 139 = .ok (.if_icmp .ge 17, 3) := by decide +kernel
theorem d_Mo_real_142 : decode (mB m_Mo_real) 142 = .ok (.dload 8, 2) := by decide +kernel
theorem d_Mo_real_144 : decode (mB m_Mo_real) 144 = .ok (.ldc2_w 330, 3) := by decide +kernel
theorem d_Mo_real_147 : decode (mB m_Mo_real) 147 = .ok (.dmul, 1) := by decide +kernel
theorem d_Mo_real_148 : decode (mB m_Mo_real) 148 = .ok (.dstore 8, 2) := by decide +kernel
theorem d_Mo_real_150 : decode (mB m_Mo_real) 150 = .ok (.iinc 11 1, 3) := by decide +kernel
theorem d_Mo_real_153 : decode (mB m_Mo_real) 153 = .ok (.goto (-18), 3) := by decide +kernel
theorem d_Mo_real_156 : decode (mB m_Mo_real) 156 = .ok (.iconst 0, 1) := by decide +kernel
theorem d_Mo_real_157 : decode (mB m_Mo_real) 157 = .ok (.istore 11, 2) := by decide +kernel
theorem d_Mo_real_159 : decode (mB m_Mo_real) 159 = .ok (.iload 11, 2) := by decide +kernel
theorem d_Mo_real_161 : decode (mB m_Mo_real) 161 = .ok (.iload 10, 2) := by decide +kernel
theorem d_Mo_real_163 : decode (mB m_Mo_real) 163 = .ok (.if_icmp .le 17, 3) := by decide +kernel
theorem d_Mo_real_166 : decode (mB m_Mo_real) 166 = .ok (.dload 8, 2) := by decide +kernel
theorem d_Mo_real_168 : decode (mB m_Mo_real) 168 = .ok (.ldc2_w 332, 3) := by decide +kernel
theorem d_Mo_real_171 : decode (mB m_Mo_real) 171 = .ok (.dmul, 1) := by decide +kernel
theorem d_Mo_real_172 : decode (mB m_Mo_real) 172 = .ok (.dstore 8, 2) := by decide +kernel
theorem d_Mo_real_174 : decode (mB m_Mo_real) 174 = .ok (.iinc 11 (-1), 3) := by decide +kernel
theorem d_Mo_real_177 : decode (mB m_Mo_real) 177 = .ok (.goto (-18), 3) := by decide +kernel
theorem d_Mo_real_180 : decode (mB m_Mo_real) 180 = .ok (.lload_n 2, 1) := by decide +kernel
theorem d_Mo_real_181 : decode (mB m_Mo_real) 181 = .ok (.lconst 0, 1) := by decide +kernel
theorem d_Mo_real_182 : decode (mB m_Mo_real) 182 = .ok (.lcmp, 1) := by decide +kernel
theorem d_Mo_real_183 : decode (mB m_Mo_real) 183 = .ok (.ifCond .ge 9, 3) := by decide +kernel
theorem d_Mo_real_186 : decode (mB m_Mo_real) 186 = .ok (.dload 8, 2) := by decide +kernel
theorem d_Mo_real_188 : decode (mB m_Mo_real) 188 = .ok (.dneg, 1) := by decide +kernel
theorem d_Mo_real_189 : decode (mB m_Mo_real) 189 = .ok (.goto 5, 3) := by decide +kernel
theorem d_Mo_real_192 : decode (mB m_Mo_real) 192 = .ok (.dload 8, 2) := by decide +kernel
theorem d_Mo_real_194 : decode (mB m_Mo_real) 194 = .ok (.dreturn, 1) := by decide +kernel
