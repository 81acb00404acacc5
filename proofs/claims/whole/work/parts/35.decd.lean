theorem d_Co_init_0 : decode (mB m_Co_init) 0 = .ok (.aload_n 0, 1) := by decide +kernel
theorem d_Co_init_1 : decode (mB m_Co_init) 1 = .ok (.invokespecial 3, 3) := by decide +kernel
theorem d_Co_init_4 : decode (mB m_Co_init) 4 = .ok (.aload_n 0, 1) := by decide +kernel
theorem d_Co_init_5 : decode (mB m_Co_init) 5 = .ok (.iconst 0, 1) := by decide +kernel
theorem d_Co_init_6 : decode (mB m_Co_init) 6 = .ok (.putfield 9, 3) := by decide +kernel
theorem d_Co_init_9 : decode (mB m_Co_init) 9 = .ok (.aload_n 0, 1) := by decide +kernel
theorem d_Co_init_10 : decode (mB m_Co_init) 10 = .ok (.iconst (-1), 1) := by decide +kernel
theorem d_Co_init_11 : decode (mB m_Co_init) 11 = .ok (.putfield 15, 3) := by decide +kernel
theorem d_Co_init_14 : decode (mB m_Co_init) 14 = .ok (.aload_n 0, 1) := by decide +kernel
theorem d_Co_init_15 : decode (mB m_Co_init) 15 = .ok (.iconst (-1), 1) := by decide +kernel
theorem d_Co_init_16 : decode (mB m_Co_init) 16 = .ok (.putfield 18, 3) := by decide +kernel
theorem d_Co_init_19 : decode (mB m_Co_init) 19 = .ok (.return_, 1) := by decide +kernel
theorem d_Co_pass_0 : decode (mB m_Co_pass) 0 = .ok (.aload_n 0, 1) := by decide +kernel
theorem d_Co_pass_1 : decode (mB m_Co_pass) 1 = .ok (.aload_n 1, 1) := by decide +kernel
theorem d_Co_pass_2 : decode (mB m_Co_pass) 2 = .ok (.invokevirtual 21, 3) := by decide +kernel
theorem d_Co_pass_5 : decode (mB m_Co_pass) 5 = .ok (.iconst 1, 1) := by decide +kernel
theorem d_Co_pass_6 : decode (mB m_Co_pass) 6 = .ok (.invokevirtual 27, 3) := by decide +kernel
theorem d_Co_pass_9 : decode (mB m_Co_pass) 9 = .ok (.ireturn, 1) := by decide +kernel
theorem d_Co_bytesPassed_0 : decode (mB m_Co_bytesPassed) 0 = .ok (.aload_n 0, 1) := by decide +kernel
theorem d_Co_bytesPassed_1 : decode (mB m_Co_bytesPassed) 1 = .ok (.getfield 9, 3) := by decide +kernel
theorem d_Co_bytesPassed_4 : decode (mB m_Co_bytesPassed) 4 = .ok (.bipush 7, 2) := by decide +kernel
theorem d_Co_bytesPassed_6 : decode (mB m_Co_bytesPassed) 6 = .ok (.iadd, 1) := by decide +kernel
theorem d_Co_bytesPassed_7 : decode (mB m_Co_bytesPassed) 7 = .ok (.bipush 8, 2) := by decide +kernel
theorem d_Co_bytesPassed_9 : decode (mB m_Co_bytesPassed) 9 = .ok (.idiv, 1) := by decide +kernel
theorem d_Co_bytesPassed_10 : decode (mB m_Co_bytesPassed) 10 = .ok (.ireturn, 1) := by decide +kernel
theorem d_Co_passType_0 : decode (mB m_Co_passType) 0 = .ok (.aload_n 1, 1) := by decide +kernel
theorem d_Co_passType_1 : decode (mB m_Co_passType) 1 = .ok (.ifnull 8, 3) := by decide +kernel
theorem d_Co_passType_4 : decode (mB m_Co_passType) 4 = .ok (.iload_n 2, 1) := by decide +kernel
theorem d_Co_passType_5 : decode (mB m_Co_passType) 5 = .ok (.iconst 5, 1) := by decide +kernel
theorem d_Co_passType_6 : decode (mB m_Co_passType) 6 = .ok (.if_icmp .le 5, 3) := by decide +kernel
theorem d_Co_passType_9 : decode (mB m_Co_passType) 9 = .ok (.iconst 2, 1) := by decide +kernel
theorem d_Co_passType_10 : decode (mB m_Co_passType) 10 = .ok (.ireturn, 1) := by decide +kernel
theorem d_Co_passType_11 : decode (mB m_Co_passType) 11 = .ok (.aload_n 1, 1) := by decide +kernel
theorem d_Co_passType_12 : decode (mB m_Co_passType) 12 = .ok (.getfield 31, 3) := by decide +kernel
theorem d_Co_passType_15 : decode (mB m_Co_passType) 15 = .ok (.lookupswitch 69 #[(42, 48), (47, 55), (63, 62), (123, 41)], 41) := by decide +kernel
theorem d_Co_passType_56 : decode (mB m_Co_passType) 56 = .ok (.aload_n 0, 1) := by decide +kernel
theorem d_Co_passType_57 : decode (mB m_Co_passType) 57 = .ok (.aload_n 1, 1) := by decide +kernel
theorem d_Co_passType_58 : decode (mB m_Co_passType) 58 = .ok (.iload_n 2, 1) := by decide +kernel
theorem d_Co_passType_59 : decode (mB m_Co_passType) 59 = .ok (.invokevirtual 36, 3) := by decide +kernel
theorem d_Co_passType_62 : decode (mB m_Co_passType) 62 = .ok (.ireturn, 1) := by decide +kernel
theorem d_Co_passType_63 : decode (mB m_Co_passType) 63 = .ok (.aload_n 0, 1) := by decide +kernel
theorem d_Co_passType_64 : decode (mB m_Co_passType) 64 = .ok (.aload_n 1, 1) := by decide +kernel
theorem d_Co_passType_65 : decode (mB m_Co_passType) 65 = .ok (.iload_n 2, 1) := by decide +kernel
theorem d_Co_passType_66 : decode (mB m_Co_passType) 66 = .ok (.invokevirtual 39, 3) := by decide +kernel
theorem d_Co_passType_69 : decode (mB m_Co_passType) 69 = .ok (.ireturn, 1) := by decide +kernel
theorem d_Co_passType_70 : decode (mB m_Co_passType) 70 = .ok (.aload_n 0, 1) := by decide +kernel
theorem d_Co_passType_71 : decode (mB m_Co_passType) 71 = .ok (.aload_n 1, 1) := by decide +kernel
theorem d_Co_passType_72 : decode (mB m_Co_passType) 72 = .ok (.iload_n 2, 1) := by decide +kernel
theorem d_Co_passType_73 : decode (mB m_Co_passType) 73 = .ok (.invokevirtual 42, 3) := by decide +kernel
theorem d_Co_passType_76 : decode (mB m_Co_passType) 76 = .ok (.ireturn, 1) := by decide +kernel
theorem d_Co_passType_77 : decode (mB m_Co_passType) 77 = .ok (.aload_n 0, 1) := by decide +kernel
theorem d_Co_passType_78 : decode (mB m_Co_passType) 78 = .ok (.aload_n 1, 1) := by decide +kernel
theorem d_Co_passType_79 : decode (mB m_Co_passType) 79 = .ok (.iload_n 2, 1) := by decide +kernel
theorem d_Co_passType_80 : decode (mB m_Co_passType) 80 = .ok (.invokevirtual 45, 3) := by decide +kernel
theorem d_Co_passType_83 : decode (mB m_Co_passType) 83 = .ok (.ireturn, 1) := by decide +kernel
theorem d_Co_passType_84 : decode (mB m_Co_passType) 84 = .ok (.aload_n 0, 1) := by decide +kernel
theorem d_Co_passType_85 : decode (mB m_Co_passType) 85 = .ok (.aload_n 1, 1) := by decide +kernel
theorem d_Co_passType_86 : decode (mB m_Co_passType) 86 = .ok (.invokevirtual 48, 3) := by decide +kernel
theorem d_Co_passType_89 : decode (mB m_Co_passType) 89 = .ok (.ireturn, 1) := by decide +kernel
theorem d_Co_passUnit_0 : decode (mB m_Co_passUnit) 0 = .ok (.aload_n 0, 1) := by decide +kernel
theorem d_Co_passUnit_1 : decode (mB m_Co_passUnit) 1 = .ok (.aload_n 0, 1) := by decide +kernel
theorem d_Co_passUnit_2 : decode (mB m_Co_passUnit) 2 = .ok (.getfield 9, 3) := by decide +kernel
theorem d_Co_passUnit_5 : decode (mB m_Co_passUnit) 5 = .ok (.bipush 8, 2) := by decide +kernel
theorem d_Co_passUnit_7 : decode (mB m_Co_passUnit) 7 = .ok (.idiv, 1) := by decide +kernel
theorem d_Co_passUnit_8 : decode (mB m_Co_passUnit) 8 = .ok (.putfield 15, 3) := by decide +kernel
theorem d_Co_passUnit_11 : decode (mB m_Co_passUnit) 11 = .ok (.aload_n 0, 1) := by decide +kernel
theorem d_Co_passUnit_12 : decode (mB m_Co_passUnit) 12 = .ok (.aload_n 1, 1) := by decide +kernel
theorem d_Co_passUnit_13 : decode (mB m_Co_passUnit) 13 = .ok (.getfield 52, 3) := by decide +kernel
theorem d_Co_passUnit_16 : decode (mB m_Co_passUnit) 16 = .ok (.putfield 18, 3) := by decide +kernel
theorem d_Co_passUnit_19 : decode (mB m_Co_passUnit) 19 = .ok (.aload_n 1, 1) := by decide +kernel
theorem d_Co_passUnit_20 : decode (mB m_Co_passUnit) 20 = .ok (.getfield 31, 3) := by decide +kernel
theorem d_Co_passUnit_23 : decode (mB m_Co_passUnit) 23 = .ok (.lookupswitch 49 #[(112, 33), (114, 44), (122, 39)], 33) := by decide +kernel
theorem d_Co_passUnit_56 : decode (mB m_Co_passUnit) 56 = .ok (.aload_n 0, 1) := by decide +kernel
theorem d_Co_passUnit_57 : decode (mB m_Co_passUnit) 57 = .ok (.aload_n 1, 1) := by decide +kernel
theorem d_Co_passUnit_58 : decode (mB m_Co_passUnit) 58 = .ok (.invokevirtual 53, 3) := by decide +kernel
theorem d_Co_passUnit_61 : decode (mB m_Co_passUnit) 61 = .ok (.ireturn, 1) := by decide +kernel
theorem d_Co_passUnit_62 : decode (mB m_Co_passUnit) 62 = .ok (.aload_n 0, 1) := by decide +kernel
theorem d_Co_passUnit_63 : decode (mB m_Co_passUnit) 63 = .ok (.invokevirtual 56, 3) := by decide +kernel
theorem d_Co_passUnit_66 : decode (mB m_Co_passUnit) 66 = .ok (.ireturn, 1) := by decide +kernel
theorem d_Co_passUnit_67 : decode (mB m_Co_passUnit) 67 = .ok (.aload_n 0, 1) := by decide +kernel
theorem d_Co_passUnit_68 : decode (mB m_Co_passUnit) 68 = .ok (.invokevirtual 60, 3) := by decide +kernel
theorem d_Co_passUnit_71 : decode (mB m_Co_passUnit) 71 = .ok (.ireturn, 1) := by decide +kernel
theorem d_Co_passUnit_72 : decode (mB m_Co_passUnit) 72 = .ok (.aload_n 0, 1) := by decide +kernel
theorem d_Co_passUnit_73 : decode (mB m_Co_passUnit) 73 = .ok (.aload_n 1, 1) := by decide +kernel
theorem d_Co_passUnit_74 : decode (mB m_Co_passUnit) 74 = .ok (.invokevirtual 63, 3) := by decide +kernel
theorem d_Co_passUnit_77 : decode (mB m_Co_passUnit) 77 = .ok (.ireturn, 1) := by decide +kernel
theorem d_Co_passFields_0 : decode (mB m_Co_passFields) 0 = .ok (.aload_n 1, 1) := by decide +kernel
theorem d_Co_passFields_1 : decode (mB m_Co_passFields) 1 = .ok (.getfield 66, 3) := by decide +kernel
theorem d_Co_passFields_4 : decode (mB m_Co_passFields) 4 = .ok (.astore_n 3, 1) := by decide +kernel
theorem d_Co_passFields_5 : decode (mB m_Co_passFields) 5 = .ok (.aload_n 3, 1) := by decide +kernel
theorem d_Co_passFields_6 : decode (mB m_Co_passFields) 6 = .ok (.ifnull 53, 3) := by decide +kernel
theorem d_Co_passFields_9 : decode (mB m_Co_passFields) 9 = .ok (.aload_n 3, 1) := by decide +kernel
theorem d_Co_passFields_10 : decode (mB m_Co_passFields) 10 = .ok (.getfield 31, 3) := by decide +kernel
theorem d_Co_passFields_13 : decode (mB m_Co_passFields) 13 = .ok (.bipush 112, 2) := by decide +kernel
theorem d_Co_passFields_15 : decode (mB m_Co_passFields) 15 = .ok (.if_icmp .ne 7, 3) := by decide +kernel
theorem d_Co_passFields_18 : decode (mB m_Co_passFields) 18 = .ok (.iconst 0, 1) := by decide +kernel
theorem d_Co_passFields_19 : decode (mB m_Co_passFields) 19 = .ok (.goto 7, 3) := by decide +kernel
theorem d_Co_passFields_22 : decode (mB m_Co_passFields) 22 = .ok (.aload_n 0, 1) := by decide +kernel
theorem d_Co_passFields_23 : decode (mB m_Co_passFields) 23 = .ok (.invokevirtual 70, 3) := by decide +kernel
theorem d_Co_passFields_26 : decode (mB m_Co_passFields) 26 = .ok (.istore 4, 2) := by decide +kernel
theorem d_Co_passFields_28 : decode (mB m_Co_passFields) 28 = .ok (.iload 4, 2) := by decide +kernel
theorem d_Co_passFields_30 : decode (mB m_Co_passFields) 30 = .ok (.ifCond .ne 13, 3) := by decide +kernel
theorem d_Co_passFields_33 : decode (mB m_Co_passFields) 33 = .ok (.aload_n 0, 1) := by decide +kernel
theorem d_Co_passFields_34 : decode (mB m_Co_passFields) 34 = .ok (.aload_n 3, 1) := by decide +kernel
theorem d_Co_passFields_35 : decode (mB m_Co_passFields) 35 = .ok (.iload_n 2, 1) := by decide +kernel
theorem d_Co_passFields_36 : decode (mB m_Co_passFields) 36 = .ok (.iconst 1, 1) := by decide +kernel
theorem d_Co_passFields_37 : decode (mB m_Co_passFields) 37 = .ok (.iadd, 1) := by decide +kernel
theorem d_Co_passFields_38 : decode (mB m_Co_passFields) 38 = .ok (.invokevirtual 27, 3) := by decide +kernel
theorem d_Co_passFields_41 : decode (mB m_Co_passFields) 41 = .ok (.istore 4, 2) := by decide +kernel
theorem d_Co_passFields_43 : decode (mB m_Co_passFields) 43 = .ok (.iload 4, 2) := by decide +kernel
theorem d_Co_passFields_45 : decode (mB m_Co_passFields) 45 = .ok (.ifCond .eq 6, 3) := by decide +kernel
theorem d_Co_passFields_48 : decode (mB m_Co_passFields) 48 = .ok (.iload 4, 2) := by decide +kernel
theorem d_Co_passFields_50 : decode (mB m_Co_passFields) 50 = .ok (.ireturn, 1) := by decide +kernel
theorem d_Co_passFields_51 : decode (mB m_Co_passFields) 51 = .ok (.aload_n 3, 1) := by decide +kernel
theorem d_Co_passFields_52 : decode (mB m_Co_passFields) 52 = .ok (.getfield 73, 3) := by decide +kernel
theorem d_Co_passFields_55 : decode (mB m_Co_passFields) 55 = .ok (.astore_n 3, 1) := by decide +kernel
theorem d_Co_passFields_56 : decode (mB m_Co_passFields) 56 = .ok (.goto (-51), 3) := by decide +kernel
theorem d_Co_passFields_59 : decode (mB m_Co_passFields) 59 = .ok (.aload_n 0, 1) := by decide +kernel
theorem d_Co_passFields_60 : decode (mB m_Co_passFields) 60 = .ok (.invokevirtual 70, 3) := by decide +kernel
theorem d_Co_passFields_63 : decode (mB m_Co_passFields) 63 = .ok (.ireturn, 1) := by decide +kernel
theorem d_Co_passCounted_0 : decode (mB m_Co_passCounted) 0 = .ok (.aload_n 1, 1) := by decide +kernel
theorem d_Co_passCounted_1 : decode (mB m_Co_passCounted) 1 = .ok (.invokestatic 76, 3) := by decide +kernel
theorem d_Co_passCounted_4 : decode (mB m_Co_passCounted) 4 = .ok (.lstore_n 3, 1) := by decide +kernel
theorem d_Co_passCounted_5 : decode (mB m_Co_passCounted) 5 = .ok (.lload_n 3, 1) := by decide +kernel
theorem d_Co_passCounted_6 : decode (mB m_Co_passCounted) 6 = .ok (.lconst 0, 1) := by decide +kernel
theorem d_Co_passCounted_7 : decode (mB m_Co_passCounted) 7 = .ok (.lcmp, 1) := by decide +kernel
theorem d_Co_passCounted_8 : decode (mB m_Co_passCounted) 8 = .ok (.ifCond .ge 7, 3) := by decide +kernel
theorem d_Co_passCounted_11 : decode (mB m_Co_passCounted) 11 = .ok (.iconst 2, 1) := by decide +kernel
theorem d_Co_passCounted_12 : decode (mB m_Co_passCounted) 12 = .ok (.goto 4, 3) := by decide +kernel
theorem d_Co_passCounted_15 : decode (mB m_Co_passCounted) 15 = .ok (.iconst 0, 1) := by decide +kernel
theorem d_Co_passCounted_16 : decode (mB m_Co_passCounted) 16 = .ok (.istore 5, 2) := by decide +kernel
theorem d_Co_passCounted_18 : decode (mB m_Co_passCounted) 18 = .ok (.lconst 0, 1) := by decide +kernel
theorem d_Co_passCounted_19 : decode (mB m_Co_passCounted) 19 = .ok (.lstore 6, 2) := by decide +kernel
theorem d_Co_passCounted_21 : decode (mB m_Co_passCounted) 21 = .ok (.lload 6, 2) := by decide +kernel
theorem d_Co_passCounted_23 : decode (mB m_Co_passCounted) 23 = .ok (.lload_n 3, 1) := by decide +kernel
theorem d_Co_passCounted_24 : decode (mB m_Co_passCounted) 24 = .ok (.lcmp, 1) := by decide +kernel
theorem d_Co_passCounted_25 : decode (mB m_Co_passCounted) 25 = .ok (.ifCond .ge 30, 3) := by decide +kernel
theorem d_Co_passCounted_28 : decode (mB m_Co_passCounted) 28 = .ok (.iload 5, 2) := by decide +kernel
theorem d_Co_passCounted_30 : decode (mB m_Co_passCounted) 30 = .ok (.ifCond .ne 25, 3) := by decide +kernel
theorem d_Co_passCounted_33 : decode (mB m_Co_passCounted) 33 = .ok (.aload_n 0, 1) := by decide +kernel
theorem d_Co_passCounted_34 : decode (mB m_Co_passCounted) 34 = .ok (.aload_n 1, 1) := by decide +kernel
theorem d_Co_passCounted_35 : decode (mB m_Co_passCounted) 35 = .ok (.getfield 66, 3) := by decide +kernel
theorem d_Co_passCounted_38 : decode (mB m_Co_passCounted) 38 = .ok (.iload_n 2, 1) := by decide +kernel
theorem d_Co_passCounted_39 : decode (mB m_Co_passCounted) 39 = .ok (.iconst 1, 1) := by decide +kernel
theorem d_Co_passCounted_40 : decode (mB m_Co_passCounted) 40 = .ok (.iadd, 1) := by decide +kernel
theorem d_Co_passCounted_41 : decode (mB m_Co_passCounted) 41 = .ok (.invokevirtual 27, 3) := by decide +kernel
theorem d_Co_passCounted_44 : decode (mB m_Co_passCounted) 44 = .ok (.istore 5, 2) := by decide +kernel
theorem d_Co_passCounted_46 : decode (mB m_Co_passCounted) 46 = .ok (.lload 6, 2) := by decide +kernel
theorem d_Co_passCounted_48 : decode (mB m_Co_passCounted) 48 = .ok (.lconst 1, 1) := by decide +kernel
theorem d_Co_passCounted_49 : decode (mB m_Co_passCounted) 49 = .ok (.ladd, 1) := by decide +kernel
theorem d_Co_passCounted_50 : decode (mB m_Co_passCounted) 50 = .ok (.lstore 6, 2) := by decide +kernel
theorem d_Co_passCounted_52 : decode (mB m_Co_passCounted) 52 = .ok (.goto (-31), 3) := by decide +kernel
theorem d_Co_passCounted_55 : decode (mB m_Co_passCounted) 55 = .ok (.iload 5, 2) := by decide +kernel
theorem d_Co_passCounted_57 : decode (mB m_Co_passCounted) 57 = .ok (.ireturn, 1) := by decide +kernel
theorem d_Co_passSized_0 : decode (mB m_Co_passSized) 0 = .ok (.aload_n 1, 1) := by decide +kernel
theorem d_Co_passSized_1 : decode (mB m_Co_passSized) 1 = .ok (.invokestatic 76, 3) := by decide +kernel
theorem d_Co_passSized_4 : decode (mB m_Co_passSized) 4 = .ok (.lstore_n 3, 1) := by decide +kernel
theorem d_Co_passSized_5 : decode (mB m_Co_passSized) 5 = .ok (.lload_n 3, 1) := by decide +kernel
theorem d_Co_passSized_6 : decode (mB m_Co_passSized) 6 = .ok (.lconst 0, 1) := by decide +kernel
theorem d_Co_passSized_7 : decode (mB m_Co_passSized) 7 = .ok (.lcmp, 1) := by decide +kernel
theorem d_Co_passSized_8 : decode (mB m_Co_passSized) 8 = .ok (.ifCond .ge 7, 3) := by decide +kernel
theorem d_Co_passSized_11 : decode (mB m_Co_passSized) 11 = .ok (.iconst 2, 1) := by decide +kernel
theorem d_Co_passSized_12 : decode (mB m_Co_passSized) 12 = .ok (.goto 4, 3) := by decide +kernel
theorem d_Co_passSized_15 : decode (mB m_Co_passSized) 15 = .ok (.iconst 0, 1) := by decide +kernel
theorem d_Co_passSized_16 : decode (mB m_Co_passSized) 16 = .ok (.istore 5, 2) := by decide +kernel
theorem d_Co_passSized_18 : decode (mB m_Co_passSized) 18 = .ok (.aload_n 0, 1) := by decide +kernel
theorem d_Co_passSized_19 : decode (mB m_Co_passSized) 19 = .ok (.invokevirtual 80, 3) := by decide +kernel
theorem d_Co_passSized_22 : decode (mB m_Co_passSized) 22 = .ok (.i2l, 1) := by decide +kernel
theorem d_Co_passSized_23 : decode (mB m_Co_passSized) 23 = .ok (.lload_n 3, 1) := by decide +kernel
theorem d_Co_passSized_24 : decode (mB m_Co_passSized) 24 = .ok (.ladd, 1) := by decide +kernel
theorem d_Co_passSized_25 : decode (mB m_Co_passSized) 25 = .ok (.lstore 6, 2) := by decide +kernel
theorem d_Co_passSized_27 : decode (mB m_Co_passSized) 27 = .ok (.iconst 0, 1) := by decide +kernel
theorem d_Co_passSized_28 : decode (mB m_Co_passSized) 28 = .ok (.istore 8, 2) := by decide +kernel
theorem d_Co_passSized_30 : decode (mB m_Co_passSized) 30 = .ok (.iload 8, 2) := by decide +kernel
theorem d_Co_passSized_32 : decode (mB m_Co_passSized) 32 = .ok (.sipush 1000, 3) := by decide +kernel
theorem d_Co_passSized_35 : decode (mB m_Co_passSized) 35 = .ok (.if_icmp .ge 38, 3) := by decide +kernel
theorem d_Co_passSized_38 : decode (mB m_Co_passSized) 38 = .ok (.iload 5, 2) := by decide +kernel
theorem d_Co_passSized_40 : decode (mB m_Co_passSized) 40 = .ok (.ifCond .ne 33, 3) := by decide +kernel
theorem d_Co_passSized_43 : decode (mB m_Co_passSized) 43 = .ok (.aload_n 0, 1) := by decide +kernel
theorem d_Co_passSized_44 : decode (mB m_Co_passSized) 44 = .ok (.invokevirtual 80, 3) := by decide +kernel
theorem d_Co_passSized_47 : decode (mB m_Co_passSized) 47 = .ok (.i2l, 1) := by decide +kernel
theorem d_Co_passSized_48 : decode (mB m_Co_passSized) 48 = .ok (.lload 6, 2) := by decide +kernel
theorem d_Co_passSized_50 : decode (mB m_Co_passSized) 50 = .ok (.lcmp, 1) := by decide +kernel
theorem d_Co_passSized_51 : decode (mB m_Co_passSized) 51 = .ok (.ifCond .ge 22, 3) := by decide +kernel
theorem d_Co_passSized_54 : decode (mB m_Co_passSized) 54 = .ok (.aload_n 0, 1) := by decide +kernel
theorem d_Co_passSized_55 : decode (mB m_Co_passSized) 55 = .ok (.aload_n 1, 1) := by decide +kernel
theorem d_Co_passSized_56 : decode (mB m_Co_passSized) 56 = .ok (.getfield 66, 3) := by decide +kernel
theorem d_Co_passSized_59 : decode (mB m_Co_passSized) 59 = .ok (.iload_n 2, 1) := by decide +kernel
theorem d_Co_passSized_60 : decode (mB m_Co_passSized) 60 = .ok (.iconst 1, 1) := by decide +kernel
theorem d_Co_passSized_61 : decode (mB m_Co_passSized) 61 = .ok (.iadd, 1) := by decide +kernel
theorem d_Co_passSized_62 : decode (mB m_Co_passSized) 62 = .ok (.invokevirtual 27, 3) := by decide +kernel
theorem d_Co_passSized_65 : decode (mB m_Co_passSized) 65 = .ok (.istore 5, 2) := by decide +kernel
theorem d_Co_passSized_67 : decode (mB m_Co_passSized) 67 = .ok (.iinc 8 1, 3) := by decide +kernel
theorem d_Co_passSized_70 : decode (mB m_Co_passSized) 70 = .ok (.goto (-40), 3) := by decide +kernel
theorem d_Co_passSized_73 : decode (mB m_Co_passSized) 73 = .ok (.iload 5, 2) := by decide +kernel
theorem d_Co_passSized_75 : decode (mB m_Co_passSized) 75 = .ok (.ifCond .ne 18, 3) := by decide +kernel
theorem d_Co_passSized_78 : decode (mB m_Co_passSized) 78 = .ok (.aload_n 0, 1) := by decide +kernel
theorem d_Co_passSized_79 : decode (mB m_Co_passSized) 79 = .ok (.invokevirtual 80, 3) := by decide +kernel
theorem d_Co_passSized_82 : decode (mB m_Co_passSized) 82 = .ok (.i2l, 1) := by decide +kernel
theorem d_Co_passSized_83 : decode (mB m_Co_passSized) 83 = .ok (.lload 6, 2) := by decide +kernel
theorem d_Co_passSized_85 : decode (mB m_Co_passSized) 85 = .ok (.lcmp, 1) := by decide +kernel
theorem d_Co_passSized_86 : decode (mB m_Co_passSized) 86 = .ok (.ifCond .le 7, 3) := by decide +kernel
theorem d_Co_passSized_89 : decode (mB m_Co_passSized) 89 = .ok (.iconst 2, 1) := by decide +kernel
theorem d_Co_passSized_90 : decode (mB m_Co_passSized) 90 = .ok (.goto 5, 3) := by decide +kernel
theorem d_Co_passSized_93 : decode (mB m_Co_passSized) 93 = .ok (.iload 5, 2) := by decide +kernel
theorem d_Co_passSized_95 : decode (mB m_Co_passSized) 95 = .ok (.ireturn, 1) := by decide +kernel
theorem d_Co_passChoice_0 : decode (mB m_Co_passChoice) 0 = .ok (.aload_n 1, 1) := by decide +kernel
theorem d_Co_passChoice_1 : decode (mB m_Co_passChoice) 1 = .ok (.invokestatic 76, 3) := by decide +kernel
theorem d_Co_passChoice_4 : decode (mB m_Co_passChoice) 4 = .ok (.lstore_n 3, 1) := by decide +kernel
theorem d_Co_passChoice_5 : decode (mB m_Co_passChoice) 5 = .ok (.aload_n 1, 1) := by decide +kernel
theorem d_Co_passChoice_6 : decode (mB m_Co_passChoice) 6 = .ok (.getfield 66, 3) := by decide +kernel
theorem d_Co_passChoice_9 : decode (mB m_Co_passChoice) 9 = .ok (.astore 5, 2) := by decide +kernel
theorem d_Co_passChoice_11 : decode (mB m_Co_passChoice) 11 = .ok (.aload 5, 2) := by decide +kernel
theorem d_Co_passChoice_13 : decode (mB m_Co_passChoice) 13 = .ok (.ifnull 34, 3) := by decide +kernel
theorem d_Co_passChoice_16 : decode (mB m_Co_passChoice) 16 = .ok (.aload 5, 2) := by decide +kernel
theorem d_Co_passChoice_18 : decode (mB m_Co_passChoice) 18 = .ok (.getfield 83, 3) := by decide +kernel
theorem d_Co_passChoice_21 : decode (mB m_Co_passChoice) 21 = .ok (.i2l, 1) := by decide +kernel
theorem d_Co_passChoice_22 : decode (mB m_Co_passChoice) 22 = .ok (.lload_n 3, 1) := by decide +kernel
theorem d_Co_passChoice_23 : decode (mB m_Co_passChoice) 23 = .ok (.lcmp, 1) := by decide +kernel
theorem d_Co_passChoice_24 : decode (mB m_Co_passChoice) 24 = .ok (.ifCond .ne 13, 3) := by decide +kernel
theorem d_Co_passChoice_27 : decode (mB m_Co_passChoice) 27 = .ok (.aload_n 0, 1) := by decide +kernel
theorem d_Co_passChoice_28 : decode (mB m_Co_passChoice) 28 = .ok (.aload 5, 2) := by decide +kernel
theorem d_Co_passChoice_30 : decode (mB m_Co_passChoice) 30 = .ok (.iload_n 2, 1) := by decide +kernel
theorem d_Co_passChoice_31 : decode (mB m_Co_passChoice) 31 = .ok (.iconst 1, 1) := by decide +kernel
theorem d_Co_passChoice_32 : decode (mB m_Co_passChoice) 32 = .ok (.iadd, 1) := by decide +kernel
theorem d_Co_passChoice_33 : decode (mB m_Co_passChoice) 33 = .ok (.invokevirtual 27, 3) := by decide +kernel
theorem d_Co_passChoice_36 : decode (mB m_Co_passChoice) 36 = .ok (.ireturn, 1) := by decide +kernel
theorem d_Co_passChoice_37 : decode (mB m_Co_passChoice) 37 = .ok (.aload 5, 2) := by decide +kernel
theorem d_Co_passChoice_39 : decode (mB m_Co_passChoice) 39 = .ok (.getfield 73, 3) := by decide +kernel
theorem d_Co_passChoice_42 : decode (mB m_Co_passChoice) 42 = .ok (.astore 5, 2) := by decide +kernel
theorem d_Co_passChoice_44 : decode (mB m_Co_passChoice) 44 = .ok (.goto (-33), 3) := by decide +kernel
theorem d_Co_passChoice_47 : decode (mB m_Co_passChoice) 47 = .ok (.iconst 2, 1) := by decide +kernel
theorem d_Co_passChoice_48 : decode (mB m_Co_passChoice) 48 = .ok (.ireturn, 1) := by decide +kernel
theorem d_Co_told_0 : decode (mB m_Co_told) 0 = .ok (.aload_n 0, 1) := by decide +kernel
theorem d_Co_told_1 : decode (mB m_Co_told) 1 = .ok (.getfield 86, 3) := by decide +kernel
theorem d_Co_told_4 : decode (mB m_Co_told) 4 = .ok (.ifnonnull 9, 3) := by decide +kernel
theorem d_Co_told_7 : decode (mB m_Co_told) 7 = .ok (.ldc2_w 89, 3) := by decide +kernel
theorem d_Co_told_10 : decode (mB m_Co_told) 10 = .ok (.goto 10, 3) := by decide +kernel
theorem d_Co_told_13 : decode (mB m_Co_told) 13 = .ok (.aload_n 0, 1) := by decide +kernel
theorem d_Co_told_14 : decode (mB m_Co_told) 14 = .ok (.getfield 86, 3) := by decide +kernel
theorem d_Co_told_17 : decode (mB m_Co_told) 17 = .ok (.getfield 91, 3) := by decide +kernel
theorem d_Co_told_20 : decode (mB m_Co_told) 20 = .ok (.lreturn, 1) := by decide +kernel
theorem d_Re_init_0 : decode (mB m_Re_init) 0 = .ok (.aload_n 0, 1) := by decide +kernel
theorem d_Re_init_1 : decode (mB m_Re_init) 1 = .ok (.invokespecial 3, 3) := by decide +kernel
theorem d_Re_init_4 : decode (mB m_Re_init) 4 = .ok (.aload_n 0, 1) := by decide +kernel
theorem d_Re_init_5 : decode (mB m_Re_init) 5 = .ok (.aload_n 1, 1) := by decide +kernel
theorem d_Re_init_6 : decode (mB m_Re_init) 6 = .ok (.putfield 9, 3) := by decide +kernel
theorem d_Re_init_9 : decode (mB m_Re_init) 9 = .ok (.aload_n 0, 1) := by decide +kernel
theorem d_Re_init_10 : decode (mB m_Re_init) 10 = .ok (.aload_n 2, 1) := by decide +kernel
theorem d_Re_init_11 : decode (mB m_Re_init) 11 = .ok (.putfield 15, 3) := by decide +kernel
theorem d_Re_init_14 : decode (mB m_Re_init) 14 = .ok (.return_, 1) := by decide +kernel
theorem d_Re_passNumber_0 : decode (mB m_Re_passNumber) 0 = .ok (.aload_n 0, 1) := by decide +kernel
theorem d_Re_passNumber_1 : decode (mB m_Re_passNumber) 1 = .ok (.invokevirtual 19, 3) := by decide +kernel
theorem d_Re_passNumber_4 : decode (mB m_Re_passNumber) 4 = .ok (.istore_n 2, 1) := by decide +kernel
theorem d_Re_passNumber_5 : decode (mB m_Re_passNumber) 5 = .ok (.aload_n 1, 1) := by decide +kernel
theorem d_Re_passNumber_6 : decode (mB m_Re_passNumber) 6 = .ok (.getfield 23, 3) := by decide +kernel
theorem d_Re_passNumber_9 : decode (mB m_Re_passNumber) 9 = .ok (.aload_n 0, 1) := by decide +kernel
theorem d_Re_passNumber_10 : decode (mB m_Re_passNumber) 10 = .ok (.getfield 9, 3) := by decide +kernel
theorem d_Re_passNumber_13 : decode (mB m_Re_passNumber) 13 = .ok (.getfield 29, 3) := by decide +kernel
theorem d_Re_passNumber_16 : decode (mB m_Re_passNumber) 16 = .ok (.iload_n 2, 1) := by decide +kernel
theorem d_Re_passNumber_17 : decode (mB m_Re_passNumber) 17 = .ok (.isub, 1) := by decide +kernel
theorem d_Re_passNumber_18 : decode (mB m_Re_passNumber) 18 = .ok (.if_icmp .le 5, 3) := by decide +kernel
theorem d_Re_passNumber_21 : decode (mB m_Re_passNumber) 21 = .ok (.iconst 1, 1) := by decide +kernel
theorem d_Re_passNumber_22 : decode (mB m_Re_passNumber) 22 = .ok (.ireturn, 1) := by decide +kernel
theorem d_Re_passNumber_23 : decode (mB m_Re_passNumber) 23 = .ok (.lconst 0, 1) := by decide +kernel
theorem d_Re_passNumber_24 : decode (mB m_Re_passNumber) 24 = .ok (.lstore_n 3, 1) := by decide +kernel
theorem d_Re_passNumber_25 : decode (mB m_Re_passNumber) 25 = .ok (.iconst 0, 1) := by decide +kernel
theorem d_Re_passNumber_26 : decode (mB m_Re_passNumber) 26 = .ok (.istore 5, 2) := by decide +kernel
theorem d_Re_passNumber_28 : decode (mB m_Re_passNumber) 28 = .ok (.iload 5, 2) := by decide +kernel
theorem d_Re_passNumber_30 : decode (mB m_Re_passNumber) 30 = .ok (.aload_n 1, 1) := by decide +kernel
theorem d_Re_passNumber_31 : decode (mB m_Re_passNumber) 31 = .ok (.getfield 23, 3) := by decide +kernel
theorem d_Re_passNumber_34 : decode (mB m_Re_passNumber) 34 = .ok (.if_icmp .ge 52, 3) := by decide +kernel
theorem d_Re_passNumber_37 : decode (mB m_Re_passNumber) 37 = .ok (.aload_n 1, 1) := by decide +kernel
theorem d_Re_passNumber_38 : decode (mB m_Re_passNumber) 38 = .ok (.getfield 34, 3) := by decide +kernel
theorem d_Re_passNumber_41 : decode (mB m_Re_passNumber) 41 = .ok (.bipush 118, 2) := by decide +kernel
theorem d_Re_passNumber_43 : decode (mB m_Re_passNumber) 43 = .ok (.if_icmp .ne 15, 3) := by decide +kernel
theorem d_Re_passNumber_46 : decode (mB m_Re_passNumber) 46 = .ok (.aload_n 1, 1) := by decide +kernel
theorem d_Re_passNumber_47 : decode (mB m_Re_passNumber) 47 = .ok (.getfield 23, 3) := by decide +kernel
theorem d_Re_passNumber_50 : decode (mB m_Re_passNumber) 50 = .ok (.iconst 1, 1) := by decide +kernel
theorem d_Re_passNumber_51 : decode (mB m_Re_passNumber) 51 = .ok (.isub, 1) := by decide +kernel
theorem d_Re_passNumber_52 : decode (mB m_Re_passNumber) 52 = .ok (.iload 5, 2) := by decide +kernel
theorem d_Re_passNumber_54 : decode (mB m_Re_passNumber) 54 = .ok (.isub, 1) := by decide +kernel
theorem d_Re_passNumber_55 : decode (mB m_Re_passNumber) 55 = .ok (.goto 5, 3) := by decide +kernel
theorem d_Re_passNumber_58 : decode (mB m_Re_passNumber) 58 = .ok (.iload 5, 2) := by decide +kernel
theorem d_Re_passNumber_60 : decode (mB m_Re_passNumber) 60 = .ok (.istore 6, 2) := by decide +kernel
theorem d_Re_passNumber_62 : decode (mB m_Re_passNumber) 62 = .ok (.lload_n 3, 1) := by decide +kernel
theorem d_Re_passNumber_63 : decode (mB m_Re_passNumber) 63 = .ok (.bipush 8, 2) := by decide +kernel
theorem d_Re_passNumber_65 : decode (mB m_Re_passNumber) 65 = .ok (.lshl, 1) := by decide +kernel
theorem d_Re_passNumber_66 : decode (mB m_Re_passNumber) 66 = .ok (.aload_n 0, 1) := by decide +kernel
theorem d_Re_passNumber_67 : decode (mB m_Re_passNumber) 67 = .ok (.getfield 9, 3) := by decide +kernel
theorem d_Re_passNumber_70 : decode (mB m_Re_passNumber) 70 = .ok (.iload_n 2, 1) := by decide +kernel
theorem d_Re_passNumber_71 : decode (mB m_Re_passNumber) 71 = .ok (.iload 6, 2) := by decide +kernel
theorem d_Re_passNumber_73 : decode (mB m_Re_passNumber) 73 = .ok (.iadd, 1) := by decide +kernel
theorem d_Re_passNumber_74 : decode (mB m_Re_passNumber) 74 = .ok (.invokevirtual 37, 3) := by decide +kernel
theorem d_Re_passNumber_77 : decode (mB m_Re_passNumber) 77 = .ok (.i2l, 1) := by decide +kernel
theorem d_Re_passNumber_78 : decode (mB m_Re_passNumber) 78 = .ok (.lor, 1) := by decide +kernel
theorem d_Re_passNumber_79 : decode (mB m_Re_passNumber) 79 = .ok (.lstore_n 3, 1) := by decide +kernel
theorem d_Re_passNumber_80 : decode (mB m_Re_passNumber) 80 = .ok (.iinc 5 1, 3) := by decide +kernel
theorem d_Re_passNumber_83 : decode (mB m_Re_passNumber) 83 = .ok (.goto (-55), 3) := by decide +kernel
theorem d_Re_passNumber_86 : decode (mB m_Re_passNumber) 86 = .ok (.aload_n 1, 1) := by decide +kernel
theorem d_Re_passNumber_87 : decode (mB m_Re_passNumber) 87 = .ok (.invokevirtual 41, 3) := by decide +kernel
theorem d_Re_passNumber_90 : decode (mB m_Re_passNumber) 90 = .ok (.ifCond .eq 23, 3) := by decide +kernel
theorem d_Re_passNumber_93 : decode (mB m_Re_passNumber) 93 = .ok (.bipush 64, 2) := by decide +kernel
theorem d_Re_passNumber_95 : decode (mB m_Re_passNumber) 95 = .ok (.bipush 8, 2) := by decide +kernel
theorem d_Re_passNumber_97 : decode (mB m_Re_passNumber) 97 = .ok (.aload_n 1, 1) := by decide +kernel
theorem d_Re_passNumber_98 : decode (mB m_Re_passNumber) 98 = .ok (.getfield 23, 3) := by decide +kernel
theorem d_Re_passNumber_101 : decode (mB m_Re_passNumber) 101 = .ok (.imul, 1) := by decide +kernel
theorem d_Re_passNumber_102 : decode (mB m_Re_passNumber) 102 = .ok (.isub, 1) := by decide +kernel
theorem d_Re_passNumber_103 : decode (mB m_Re_passNumber) 103 = .ok (.istore 5, 2) := by decide +kernel
theorem d_Re_passNumber_105 : decode (mB m_Re_passNumber) 105 = .ok (.lload_n 3, 1) := by decide +kernel
theorem d_Re_passNumber_106 : decode (mB m_Re_passNumber) 106 = .ok (.iload 5, 2) := by decide +kernel
theorem d_Re_passNumber_108 : decode (mB m_Re_passNumber) 108 = .ok (.lshl, 1) := by decide +kernel
theorem d_Re_passNumber_109 : decode (mB m_Re_passNumber) 109 = .ok (.iload 5, 2) := by decide +kernel
theorem d_Re_passNumber_111 : decode (mB m_Re_passNumber) 111 = .ok (.lshr, 1) := by decide +kernel
theorem d_Re_passNumber_112 : decode (mB m_Re_passNumber) 112 = .ok (.lstore_n 3, 1) := by decide +kernel
theorem d_Re_passNumber_113 : decode (mB m_Re_passNumber) 113 = .ok (.aload_n 0, 1) := by decide +kernel
theorem d_Re_passNumber_114 : decode (mB m_Re_passNumber) 114 = .ok (.dup, 1) := by decide +kernel
theorem d_Re_passNumber_115 : decode (mB m_Re_passNumber) 115 = .ok (.getfield 45, 3) := by decide +kernel
theorem d_Re_passNumber_118 : decode (mB m_Re_passNumber) 118 = .ok (.bipush 8, 2) := by decide +kernel
theorem d_Re_passNumber_120 : decode (mB m_Re_passNumber) 120 = .ok (.aload_n 1, 1) := by decide +kernel
theorem d_Re_passNumber_121 : decode (mB m_Re_passNumber) 121 = .ok (.getfield 23, 3) := by decide +kernel
theorem d_Re_passNumber_124 : decode (mB m_Re_passNumber) 124 = .ok (.imul, 1) := by decide +kernel
theorem d_Re_passNumber_125 : decode (mB m_Re_passNumber) 125 = .ok (.iadd, 1) := by decide +kernel
theorem d_Re_passNumber_126 : decode (mB m_Re_passNumber) 126 = .ok (.putfield 45, 3) := by decide +kernel
theorem d_Re_passNumber_129 : decode (mB m_Re_passNumber) 129 = .ok (.aload_n 0, 1) := by decide +kernel
theorem d_Re_passNumber_130 : decode (mB m_Re_passNumber) 130 = .ok (.aload_n 1, 1) := by decide +kernel
theorem d_Re_passNumber_131 : decode (mB m_Re_passNumber) 131 = .ok (.lload_n 3, 1) := by decide +kernel
theorem d_Re_passNumber_132 : decode (mB m_Re_passNumber) 132 = .ok (.invokevirtual 48, 3) := by decide +kernel
theorem d_Re_passNumber_135 : decode (mB m_Re_passNumber) 135 = .ok (.ireturn, 1) := by decide +kernel
theorem d_Re_passBits_0 : decode (mB m_Re_passBits) 0 = .ok (.aload_n 1, 1) := by decide +kernel
theorem d_Re_passBits_1 : decode (mB m_Re_passBits) 1 = .ok (.getfield 23, 3) := by decide +kernel
theorem d_Re_passBits_4 : decode (mB m_Re_passBits) 4 = .ok (.bipush 8, 2) := by decide +kernel
theorem d_Re_passBits_6 : decode (mB m_Re_passBits) 6 = .ok (.aload_n 0, 1) := by decide +kernel
theorem d_Re_passBits_7 : decode (mB m_Re_passBits) 7 = .ok (.getfield 9, 3) := by decide +kernel
theorem d_Re_passBits_10 : decode (mB m_Re_passBits) 10 = .ok (.getfield 29, 3) := by decide +kernel
theorem d_Re_passBits_13 : decode (mB m_Re_passBits) 13 = .ok (.imul, 1) := by decide +kernel
theorem d_Re_passBits_14 : decode (mB m_Re_passBits) 14 = .ok (.aload_n 0, 1) := by decide +kernel
theorem d_Re_passBits_15 : decode (mB m_Re_passBits) 15 = .ok (.getfield 45, 3) := by decide +kernel
theorem d_Re_passBits_18 : decode (mB m_Re_passBits) 18 = .ok (.isub, 1) := by decide +kernel
theorem d_Re_passBits_19 : decode (mB m_Re_passBits) 19 = .ok (.if_icmp .le 5, 3) := by decide +kernel
theorem d_Re_passBits_22 : decode (mB m_Re_passBits) 22 = .ok (.iconst 1, 1) := by decide +kernel
theorem d_Re_passBits_23 : decode (mB m_Re_passBits) 23 = .ok (.ireturn, 1) := by decide +kernel
theorem d_Re_passBits_24 : decode (mB m_Re_passBits) 24 = .ok (.lconst 0, 1) := by decide +kernel
theorem d_Re_passBits_25 : decode (mB m_Re_passBits) 25 = .ok (.lstore_n 2, 1) := by decide +kernel
theorem d_Re_passBits_26 : decode (mB m_Re_passBits) 26 = .ok (.iconst 0, 1) := by decide +kernel
theorem d_Re_passBits_27 : decode (mB m_Re_passBits) 27 = .ok (.istore 4, 2) := by decide +kernel
theorem d_Re_passBits_29 : decode (mB m_Re_passBits) 29 = .ok (.iload 4, 2) := by decide +kernel
theorem d_Re_passBits_31 : decode (mB m_Re_passBits) 31 = .ok (.aload_n 1, 1) := by decide +kernel
theorem d_Re_passBits_32 : decode (mB m_Re_passBits) 32 = .ok (.getfield 23, 3) := by decide +kernel
theorem d_Re_passBits_35 : decode (mB m_Re_passBits) 35 = .ok (.if_icmp .ge 19, 3) := by decide +kernel
theorem d_Re_passBits_38 : decode (mB m_Re_passBits) 38 = .ok (.lload_n 2, 1) := by decide +kernel
theorem d_Re_passBits_39 : decode (mB m_Re_passBits) 39 = .ok (.iconst 1, 1) := by decide +kernel
theorem d_Re_passBits_40 : decode (mB m_Re_passBits) 40 = .ok (.lshl, 1) := by decide +kernel
theorem d_Re_passBits_41 : decode (mB m_Re_passBits) 41 = .ok (.aload_n 0, 1) := by decide +kernel
theorem d_Re_passBits_42 : decode (mB m_Re_passBits) 42 = .ok (.invokevirtual 52, 3) := by decide +kernel
theorem d_Re_passBits_45 : decode (mB m_Re_passBits) 45 = .ok (.i2l, 1) := by decide +kernel
theorem d_Re_passBits_46 : decode (mB m_Re_passBits) 46 = .ok (.lor, 1) := by decide +kernel
theorem d_Re_passBits_47 : decode (mB m_Re_passBits) 47 = .ok (.lstore_n 2, 1) := by decide +kernel
theorem d_Re_passBits_48 : decode (mB m_Re_passBits) 48 = .ok (.iinc 4 1, 3) := by decide +kernel
theorem d_Re_passBits_51 : decode (mB m_Re_passBits) 51 = .ok (.goto (-22), 3) := by decide +kernel
theorem d_Re_passBits_54 : decode (mB m_Re_passBits) 54 = .ok (.aload_n 0, 1) := by decide +kernel
theorem d_Re_passBits_55 : decode (mB m_Re_passBits) 55 = .ok (.aload_n 1, 1) := by decide +kernel
theorem d_Re_passBits_56 : decode (mB m_Re_passBits) 56 = .ok (.lload_n 2, 1) := by decide +kernel
theorem d_Re_passBits_57 : decode (mB m_Re_passBits) 57 = .ok (.invokevirtual 48, 3) := by decide +kernel
theorem d_Re_passBits_60 : decode (mB m_Re_passBits) 60 = .ok (.ireturn, 1) := by decide +kernel
theorem d_Re_passWords_0 : decode (mB m_Re_passWords) 0 = .ok (.aload_n 0, 1) := by decide +kernel
theorem d_Re_passWords_1 : decode (mB m_Re_passWords) 1 = .ok (.invokevirtual 19, 3) := by decide +kernel
theorem d_Re_passWords_4 : decode (mB m_Re_passWords) 4 = .ok (.istore_n 1, 1) := by decide +kernel
theorem d_Re_passWords_5 : decode (mB m_Re_passWords) 5 = .ok (.aload_n 0, 1) := by decide +kernel
theorem d_Re_passWords_6 : decode (mB m_Re_passWords) 6 = .ok (.getfield 9, 3) := by decide +kernel
theorem d_Re_passWords_9 : decode (mB m_Re_passWords) 9 = .ok (.getfield 29, 3) := by decide +kernel
theorem d_Re_passWords_12 : decode (mB m_Re_passWords) 12 = .ok (.iload_n 1, 1) := by decide +kernel
theorem d_Re_passWords_13 : decode (mB m_Re_passWords) 13 = .ok (.isub, 1) := by decide +kernel
theorem d_Re_passWords_14 : decode (mB m_Re_passWords) 14 = .ok (.istore_n 2, 1) := by decide +kernel
theorem d_Re_passWords_15 : decode (mB m_Re_passWords) 15 = .ok (.iconst 0, 1) := by decide +kernel
theorem d_Re_passWords_16 : decode (mB m_Re_passWords) 16 = .ok (.istore_n 3, 1) := by decide +kernel
theorem d_Re_passWords_17 : decode (mB m_Re_passWords) 17 = .ok (.iload_n 3, 1) := by decide +kernel
theorem d_Re_passWords_18 : decode (mB m_Re_passWords) 18 = .ok (.iload_n 2, 1) := by decide +kernel
theorem d_Re_passWords_19 : decode (mB m_Re_passWords) 19 = .ok (.if_icmp .ge 28, 3) := by decide +kernel
theorem d_Re_passWords_22 : decode (mB m_Re_passWords) 22 = .ok (.iload_n 3, 1) := by decide +kernel
theorem d_Re_passWords_23 : decode (mB m_Re_passWords) 23 = .ok (.bipush 20, 2) := by decide +kernel
theorem d_Re_passWords_25 : decode (mB m_Re_passWords) 25 = .ok (.if_icmp .gt 22, 3) := by decide +kernel
theorem d_Re_passWords_28 : decode (mB m_Re_passWords) 28 = .ok (.aload_n 0, 1) := by decide +kernel
theorem d_Re_passWords_29 : decode (mB m_Re_passWords) 29 = .ok (.getfield 9, 3) := by decide +kernel
theorem d_Re_passWords_32 : decode (mB m_Re_passWords) 32 = .ok (.iload_n 1, 1) := by decide +kernel
theorem d_Re_passWords_33 : decode (mB m_Re_passWords) 33 = .ok (.iload_n 3, 1) := by decide +kernel
theorem d_Re_passWords_34 : decode (mB m_Re_passWords) 34 = .ok (.iadd, 1) := by decide +kernel
theorem d_Re_passWords_35 : decode (mB m_Re_passWords) 35 = .ok (.invokevirtual 37, 3) := by decide +kernel
theorem d_Re_passWords_38 : decode (mB m_Re_passWords) 38 = .ok (.ifCond .eq 9, 3) := by decide +kernel
theorem d_Re_passWords_41 : decode (mB m_Re_passWords) 41 = .ok (.iinc 3 1, 3) := by decide +kernel
theorem d_Re_passWords_44 : decode (mB m_Re_passWords) 44 = .ok (.goto (-27), 3) := by decide +kernel
theorem d_Re_passWords_47 : decode (mB m_Re_passWords) 47 = .ok (.iload_n 3, 1) := by decide +kernel
theorem d_Re_passWords_48 : decode (mB m_Re_passWords) 48 = .ok (.bipush 20, 2) := by decide +kernel
theorem d_Re_passWords_50 : decode (mB m_Re_passWords) 50 = .ok (.if_icmp .le 5, 3) := by decide +kernel
theorem d_Re_passWords_53 : decode (mB m_Re_passWords) 53 = .ok (.iconst 2, 1) := by decide +kernel
theorem d_Re_passWords_54 : decode (mB m_Re_passWords) 54 = .ok (.ireturn, 1) := by decide +kernel
theorem d_Re_passWords_55 : decode (mB m_Re_passWords) 55 = .ok (.iload_n 3, 1) := by decide +kernel
theorem d_Re_passWords_56 : decode (mB m_Re_passWords) 56 = .ok (.iload_n 2, 1) := by decide +kernel
theorem d_Re_passWords_57 : decode (mB m_Re_passWords) 57 = .ok (.if_icmp .ne 5, 3) := by decide +kernel
theorem d_Re_passWords_60 : decode (mB m_Re_passWords) 60 = .ok (.iconst 1, 1) := by decide +kernel
theorem d_Re_passWords_61 : decode (mB m_Re_passWords) 61 = .ok (.ireturn, 1) := by decide +kernel
theorem d_Re_passWords_62 : decode (mB m_Re_passWords) 62 = .ok (.aload_n 0, 1) := by decide +kernel
theorem d_Re_passWords_63 : decode (mB m_Re_passWords) 63 = .ok (.dup, 1) := by decide +kernel
theorem d_Re_passWords_64 : decode (mB m_Re_passWords) 64 = .ok (.getfield 45, 3) := by decide +kernel
theorem d_Re_passWords_67 : decode (mB m_Re_passWords) 67 = .ok (.bipush 8, 2) := by decide +kernel
theorem d_Re_passWords_69 : decode (mB m_Re_passWords) 69 = .ok (.iload_n 3, 1) := by decide +kernel
theorem d_Re_passWords_70 : decode (mB m_Re_passWords) 70 = .ok (.imul, 1) := by decide +kernel
theorem d_Re_passWords_71 : decode (mB m_Re_passWords) 71 = .ok (.bipush 8, 2) := by decide +kernel
theorem d_Re_passWords_73 : decode (mB m_Re_passWords) 73 = .ok (.iadd, 1) := by decide +kernel
theorem d_Re_passWords_74 : decode (mB m_Re_passWords) 74 = .ok (.iadd, 1) := by decide +kernel
theorem d_Re_passWords_75 : decode (mB m_Re_passWords) 75 = .ok (.putfield 45, 3) := by decide +kernel
theorem d_Re_passWords_78 : decode (mB m_Re_passWords) 78 = .ok (.aload_n 0, 1) := by decide +kernel
theorem d_Re_passWords_79 : decode (mB m_Re_passWords) 79 = .ok (.iload_n 1, 1) := by decide +kernel
theorem d_Re_passWords_80 : decode (mB m_Re_passWords) 80 = .ok (.iload_n 3, 1) := by decide +kernel
theorem d_Re_passWords_81 : decode (mB m_Re_passWords) 81 = .ok (.invokevirtual 55, 3) := by decide +kernel
theorem d_Re_passWords_84 : decode (mB m_Re_passWords) 84 = .ok (.ireturn, 1) := by decide +kernel
theorem d_Re_passRest_0 : decode (mB m_Re_passRest) 0 = .ok (.aload_n 0, 1) := by decide +kernel
theorem d_Re_passRest_1 : decode (mB m_Re_passRest) 1 = .ok (.invokevirtual 19, 3) := by decide +kernel
theorem d_Re_passRest_4 : decode (mB m_Re_passRest) 4 = .ok (.istore_n 1, 1) := by decide +kernel
theorem d_Re_passRest_5 : decode (mB m_Re_passRest) 5 = .ok (.aload_n 0, 1) := by decide +kernel
theorem d_Re_passRest_6 : decode (mB m_Re_passRest) 6 = .ok (.getfield 9, 3) := by decide +kernel
theorem d_Re_passRest_9 : decode (mB m_Re_passRest) 9 = .ok (.getfield 29, 3) := by decide +kernel
theorem d_Re_passRest_12 : decode (mB m_Re_passRest) 12 = .ok (.iload_n 1, 1) := by decide +kernel
theorem d_Re_passRest_13 : decode (mB m_Re_passRest) 13 = .ok (.isub, 1) := by decide +kernel
theorem d_Re_passRest_14 : decode (mB m_Re_passRest) 14 = .ok (.istore_n 2, 1) := by decide +kernel
theorem d_Re_passRest_15 : decode (mB m_Re_passRest) 15 = .ok (.aload_n 0, 1) := by decide +kernel
theorem d_Re_passRest_16 : decode (mB m_Re_passRest) 16 = .ok (.dup, 1) := by decide +kernel
theorem d_Re_passRest_17 : decode (mB m_Re_passRest) 17 = .ok (.getfield 45, 3) := by decide +kernel
theorem d_Re_passRest_20 : decode (mB m_Re_passRest) 20 = .ok (.bipush 8, 2) := by decide +kernel
theorem d_Re_passRest_22 : decode (mB m_Re_passRest) 22 = .ok (.iload_n 2, 1) := by decide +kernel
theorem d_Re_passRest_23 : decode (mB m_Re_passRest) 23 = .ok (.imul, 1) := by decide +kernel
theorem d_Re_passRest_24 : decode (mB m_Re_passRest) 24 = .ok (.iadd, 1) := by decide +kernel
theorem d_Re_passRest_25 : decode (mB m_Re_passRest) 25 = .ok (.putfield 45, 3) := by decide +kernel
theorem d_Re_passRest_28 : decode (mB m_Re_passRest) 28 = .ok (.aload_n 0, 1) := by decide +kernel
theorem d_Re_passRest_29 : decode (mB m_Re_passRest) 29 = .ok (.iload_n 1, 1) := by decide +kernel
theorem d_Re_passRest_30 : decode (mB m_Re_passRest) 30 = .ok (.iload_n 2, 1) := by decide +kernel
theorem d_Re_passRest_31 : decode (mB m_Re_passRest) 31 = .ok (.invokevirtual 55, 3) := by decide +kernel
theorem d_Re_passRest_34 : decode (mB m_Re_passRest) 34 = .ok (.ireturn, 1) := by decide +kernel
theorem d_Re_passSpare_0 : decode (mB m_Re_passSpare) 0 = .ok (.iconst 0, 1) := by decide +kernel
theorem d_Re_passSpare_1 : decode (mB m_Re_passSpare) 1 = .ok (.istore_n 1, 1) := by decide +kernel
theorem d_Re_passSpare_2 : decode (mB m_Re_passSpare) 2 = .ok (.iload_n 1, 1) := by decide +kernel
theorem d_Re_passSpare_3 : decode (mB m_Re_passSpare) 3 = .ok (.bipush 7, 2) := by decide +kernel
theorem d_Re_passSpare_5 : decode (mB m_Re_passSpare) 5 = .ok (.if_icmp .ge 28, 3) := by decide +kernel
theorem d_Re_passSpare_8 : decode (mB m_Re_passSpare) 8 = .ok (.aload_n 0, 1) := by decide +kernel
theorem d_Re_passSpare_9 : decode (mB m_Re_passSpare) 9 = .ok (.getfield 45, 3) := by decide +kernel
theorem d_Re_passSpare_12 : decode (mB m_Re_passSpare) 12 = .ok (.bipush 8, 2) := by decide +kernel
theorem d_Re_passSpare_14 : decode (mB m_Re_passSpare) 14 = .ok (.irem, 1) := by decide +kernel
theorem d_Re_passSpare_15 : decode (mB m_Re_passSpare) 15 = .ok (.ifCond .eq 18, 3) := by decide +kernel
theorem d_Re_passSpare_18 : decode (mB m_Re_passSpare) 18 = .ok (.aload_n 0, 1) := by decide +kernel
theorem d_Re_passSpare_19 : decode (mB m_Re_passSpare) 19 = .ok (.invokevirtual 52, 3) := by decide +kernel
theorem d_Re_passSpare_22 : decode (mB m_Re_passSpare) 22 = .ok (.ifCond .eq 5, 3) := by decide +kernel
theorem d_Re_passSpare_25 : decode (mB m_Re_passSpare) 25 = .ok (.iconst 2, 1) := by decide +kernel
theorem d_Re_passSpare_26 : decode (mB m_Re_passSpare) 26 = .ok (.ireturn, 1) := by decide +kernel
theorem d_Re_passSpare_27 : decode (mB m_Re_passSpare) 27 = .ok (.iinc 1 1, 3) := by decide +kernel
theorem d_Re_passSpare_30 : decode (mB m_Re_passSpare) 30 = .ok (.goto (-28), 3) := by decide +kernel
theorem d_Re_passSpare_33 : decode (mB m_Re_passSpare) 33 = .ok (.iconst 0, 1) := by decide +kernel
theorem d_Re_passSpare_34 : decode (mB m_Re_passSpare) 34 = .ok (.ireturn, 1) := by decide +kernel
theorem d_Re_nextBit_0 : decode (mB m_Re_nextBit) 0 = .ok (.aload_n 0, 1) := by decide +kernel
theorem d_Re_nextBit_1 : decode (mB m_Re_nextBit) 1 = .ok (.getfield 9, 3) := by decide +kernel
theorem d_Re_nextBit_4 : decode (mB m_Re_nextBit) 4 = .ok (.aload_n 0, 1) := by decide +kernel
theorem d_Re_nextBit_5 : decode (mB m_Re_nextBit) 5 = .ok (.getfield 45, 3) := by decide +kernel
theorem d_Re_nextBit_8 : decode (mB m_Re_nextBit) 8 = .ok (.bipush 8, 2) := by decide +kernel
theorem d_Re_nextBit_10 : decode (mB m_Re_nextBit) 10 = .ok (.idiv, 1) := by decide +kernel
theorem d_Re_nextBit_11 : decode (mB m_Re_nextBit) 11 = .ok (.invokevirtual 37, 3) := by decide +kernel
theorem d_Re_nextBit_14 : decode (mB m_Re_nextBit) 14 = .ok (.bipush 7, 2) := by decide +kernel
theorem d_Re_nextBit_16 : decode (mB m_Re_nextBit) 16 = .ok (.aload_n 0, 1) := by decide +kernel
theorem d_Re_nextBit_17 : decode (mB m_Re_nextBit) 17 = .ok (.getfield 45, 3) := by decide +kernel
theorem d_Re_nextBit_20 : decode (mB m_Re_nextBit) 20 = .ok (.bipush 8, 2) := by decide +kernel
theorem d_Re_nextBit_22 : decode (mB m_Re_nextBit) 22 = .ok (.irem, 1) := by decide +kernel
theorem d_Re_nextBit_23 : decode (mB m_Re_nextBit) 23 = .ok (.isub, 1) := by decide +kernel
theorem d_Re_nextBit_24 : decode (mB m_Re_nextBit) 24 = .ok (.ishr, 1) := by decide +kernel
theorem d_Re_nextBit_25 : decode (mB m_Re_nextBit) 25 = .ok (.iconst 1, 1) := by decide +kernel
theorem d_Re_nextBit_26 : decode (mB m_Re_nextBit) 26 = .ok (.iand, 1) := by decide +kernel
theorem d_Re_nextBit_27 : decode (mB m_Re_nextBit) 27 = .ok (.istore_n 1, 1) := by decide +kernel
theorem d_Re_nextBit_28 : decode (mB m_Re_nextBit) 28 = .ok (.aload_n 0, 1) := by decide +kernel
theorem d_Re_nextBit_29 : decode (mB m_Re_nextBit) 29 = .ok (.dup, 1) := by decide +kernel
theorem d_Re_nextBit_30 : decode (mB m_Re_nextBit) 30 = .ok (.getfield 45, 3) := by decide +kernel
theorem d_Re_nextBit_33 : decode (mB m_Re_nextBit) 33 = .ok (.iconst 1, 1) := by decide +kernel
theorem d_Re_nextBit_34 : decode (mB m_Re_nextBit) 34 = .ok (.iadd, 1) := by decide +kernel
theorem d_Re_nextBit_35 : decode (mB m_Re_nextBit) 35 = .ok (.putfield 45, 3) := by decide +kernel
theorem d_Re_nextBit_38 : decode (mB m_Re_nextBit) 38 = .ok (.iload_n 1, 1) := by decide +kernel
theorem d_Re_nextBit_39 : decode (mB m_Re_nextBit) 39 = .ok (.ireturn, 1) := by decide +kernel
theorem d_Re_keep_0 : decode (mB m_Re_keep) 0 = .ok (.aload_n 1, 1) := by decide +kernel
theorem d_Re_keep_1 : decode (mB m_Re_keep) 1 = .ok (.lload_n 2, 1) := by decide +kernel
theorem d_Re_keep_2 : decode (mB m_Re_keep) 2 = .ok (.invokevirtual 59, 3) := by decide +kernel
theorem d_Re_keep_5 : decode (mB m_Re_keep) 5 = .ok (.ifCond .eq 14, 3) := by decide +kernel
theorem d_Re_keep_8 : decode (mB m_Re_keep) 8 = .ok (.aload_n 0, 1) := by decide +kernel
theorem d_Re_keep_9 : decode (mB m_Re_keep) 9 = .ok (.getfield 15, 3) := by decide +kernel
theorem d_Re_keep_12 : decode (mB m_Re_keep) 12 = .ok (.lload_n 2, 1) := by decide +kernel
theorem d_Re_keep_13 : decode (mB m_Re_keep) 13 = .ok (.invokevirtual 63, 3) := by decide +kernel
theorem d_Re_keep_16 : decode (mB m_Re_keep) 16 = .ok (.ifCond .ne 5, 3) := by decide +kernel
theorem d_Re_keep_19 : decode (mB m_Re_keep) 19 = .ok (.iconst 2, 1) := by decide +kernel
theorem d_Re_keep_20 : decode (mB m_Re_keep) 20 = .ok (.ireturn, 1) := by decide +kernel
theorem d_Re_keep_21 : decode (mB m_Re_keep) 21 = .ok (.aload_n 1, 1) := by decide +kernel
theorem d_Re_keep_22 : decode (mB m_Re_keep) 22 = .ok (.lload_n 2, 1) := by decide +kernel
theorem d_Re_keep_23 : decode (mB m_Re_keep) 23 = .ok (.putfield 68, 3) := by decide +kernel
theorem d_Re_keep_26 : decode (mB m_Re_keep) 26 = .ok (.iconst 0, 1) := by decide +kernel
theorem d_Re_keep_27 : decode (mB m_Re_keep) 27 = .ok (.ireturn, 1) := by decide +kernel
theorem d_Re_keepBytes_0 : decode (mB m_Re_keepBytes) 0 = .ok (.aload_n 0, 1) := by decide +kernel
theorem d_Re_keepBytes_1 : decode (mB m_Re_keepBytes) 1 = .ok (.getfield 15, 3) := by decide +kernel
theorem d_Re_keepBytes_4 : decode (mB m_Re_keepBytes) 4 = .ok (.iload_n 2, 1) := by decide +kernel
theorem d_Re_keepBytes_5 : decode (mB m_Re_keepBytes) 5 = .ok (.i2l, 1) := by decide +kernel
theorem d_Re_keepBytes_6 : decode (mB m_Re_keepBytes) 6 = .ok (.invokevirtual 63, 3) := by decide +kernel
theorem d_Re_keepBytes_9 : decode (mB m_Re_keepBytes) 9 = .ok (.istore_n 3, 1) := by decide +kernel
theorem d_Re_keepBytes_10 : decode (mB m_Re_keepBytes) 10 = .ok (.iconst 0, 1) := by decide +kernel
theorem d_Re_keepBytes_11 : decode (mB m_Re_keepBytes) 11 = .ok (.istore 4, 2) := by decide +kernel
theorem d_Re_keepBytes_13 : decode (mB m_Re_keepBytes) 13 = .ok (.iload 4, 2) := by decide +kernel
theorem d_Re_keepBytes_15 : decode (mB m_Re_keepBytes) 15 = .ok (.iload_n 2, 1) := by decide +kernel
theorem d_Re_keepBytes_16 : decode (mB m_Re_keepBytes) 16 = .ok (.if_icmp .ge 41, 3) := by decide +kernel
theorem d_Re_keepBytes_19 : decode (mB m_Re_keepBytes) 19 = .ok (.iload_n 3, 1) := by decide +kernel
theorem d_Re_keepBytes_20 : decode (mB m_Re_keepBytes) 20 = .ok (.ifCond .eq 29, 3) := by decide +kernel
theorem d_Re_keepBytes_23 : decode (mB m_Re_keepBytes) 23 = .ok (.aload_n 0, 1) := by decide +kernel
theorem d_Re_keepBytes_24 : decode (mB m_Re_keepBytes) 24 = .ok (.getfield 15, 3) := by decide +kernel
theorem d_Re_keepBytes_27 : decode (mB m_Re_keepBytes) 27 = .ok (.aload_n 0, 1) := by decide +kernel
theorem d_Re_keepBytes_28 : decode (mB m_Re_keepBytes) 28 = .ok (.getfield 9, 3) := by decide +kernel
theorem d_Re_keepBytes_31 : decode (mB m_Re_keepBytes) 31 = .ok (.iload_n 1, 1) := by decide +kernel
theorem d_Re_keepBytes_32 : decode (mB m_Re_keepBytes) 32 = .ok (.iload 4, 2) := by decide +kernel
theorem d_Re_keepBytes_34 : decode (mB m_Re_keepBytes) 34 = .ok (.iadd, 1) := by decide +kernel
theorem d_Re_keepBytes_35 : decode (mB m_Re_keepBytes) 35 = .ok (.invokevirtual 37, 3) := by decide +kernel
theorem d_Re_keepBytes_38 : decode (mB m_Re_keepBytes) 38 = .ok (.i2l, 1) := by decide +kernel
theorem d_Re_keepBytes_39 : decode (mB m_Re_keepBytes) 39 = .ok (.invokevirtual 63, 3) := by decide +kernel
theorem d_Re_keepBytes_42 : decode (mB m_Re_keepBytes) 42 = .ok (.ifCond .eq 7, 3) := by decide +kernel
theorem d_Re_keepBytes_45 : decode (mB m_Re_keepBytes) 45 = .ok (.iconst 1, 1) := by decide +kernel
theorem d_Re_keepBytes_46 : decode (mB m_Re_keepBytes) 46 = .ok (.goto 4, 3) := by decide +kernel
theorem d_Re_keepBytes_49 : decode (mB m_Re_keepBytes) 49 = .ok (.iconst 0, 1) := by decide +kernel
theorem d_Re_keepBytes_50 : decode (mB m_Re_keepBytes) 50 = .ok (.istore_n 3, 1) := by decide +kernel
theorem d_Re_keepBytes_51 : decode (mB m_Re_keepBytes) 51 = .ok (.iinc 4 1, 3) := by decide +kernel
theorem d_Re_keepBytes_54 : decode (mB m_Re_keepBytes) 54 = .ok (.goto (-41), 3) := by decide +kernel
theorem d_Re_keepBytes_57 : decode (mB m_Re_keepBytes) 57 = .ok (.iload_n 3, 1) := by decide +kernel
theorem d_Re_keepBytes_58 : decode (mB m_Re_keepBytes) 58 = .ok (.ifCond .eq 7, 3) := by decide +kernel
theorem d_Re_keepBytes_61 : decode (mB m_Re_keepBytes) 61 = .ok (.iconst 0, 1) := by decide +kernel
theorem d_Re_keepBytes_62 : decode (mB m_Re_keepBytes) 62 = .ok (.goto 4, 3) := by decide +kernel
theorem d_Re_keepBytes_65 : decode (mB m_Re_keepBytes) 65 = .ok (.iconst 2, 1) := by decide +kernel
theorem d_Re_keepBytes_66 : decode (mB m_Re_keepBytes) 66 = .ok (.ireturn, 1) := by decide +kernel
