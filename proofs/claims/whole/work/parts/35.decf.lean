theorem d_Ff_init_0 : decode (mB m_Ff_init) 0 = .ok (.aload_n 0, 1) := by decide +kernel
theorem d_Ff_init_1 : decode (mB m_Ff_init) 1 = .ok (.invokespecial 1, 3) := by decide +kernel
theorem d_Ff_init_4 : decode (mB m_Ff_init) 4 = .ok (.aload_n 0, 1) := by decide +kernel
theorem d_Ff_init_5 : decode (mB m_Ff_init) 5 = .ok (.new 7, 3) := by decide +kernel
theorem d_Ff_init_8 : decode (mB m_Ff_init) 8 = .ok (.dup, 1) := by decide +kernel
theorem d_Ff_init_9 : decode (mB m_Ff_init) 9 = .ok (.bipush 90, 2) := by decide +kernel
theorem d_Ff_init_11 : decode (mB m_Ff_init) 11 = .ok (.invokespecial 11, 3) := by decide +kernel
theorem d_Ff_init_14 : decode (mB m_Ff_init) 14 = .ok (.putfield 14, 3) := by decide +kernel
theorem d_Ff_init_17 : decode (mB m_Ff_init) 17 = .ok (.aload_n 0, 1) := by decide +kernel
theorem d_Ff_init_18 : decode (mB m_Ff_init) 18 = .ok (.new 7, 3) := by decide +kernel
theorem d_Ff_init_21 : decode (mB m_Ff_init) 21 = .ok (.dup, 1) := by decide +kernel
theorem d_Ff_init_22 : decode (mB m_Ff_init) 22 = .ok (.bipush 120, 2) := by decide +kernel
theorem d_Ff_init_24 : decode (mB m_Ff_init) 24 = .ok (.invokespecial 11, 3) := by decide +kernel
theorem d_Ff_init_27 : decode (mB m_Ff_init) 27 = .ok (.putfield 18, 3) := by decide +kernel
theorem d_Ff_init_30 : decode (mB m_Ff_init) 30 = .ok (.aload_n 0, 1) := by decide +kernel
theorem d_Ff_init_31 : decode (mB m_Ff_init) 31 = .ok (.new 21, 3) := by decide +kernel
theorem d_Ff_init_34 : decode (mB m_Ff_init) 34 = .ok (.dup, 1) := by decide +kernel
theorem d_Ff_init_35 : decode (mB m_Ff_init) 35 = .ok (.sipush 160, 3) := by decide +kernel
theorem d_Ff_init_38 : decode (mB m_Ff_init) 38 = .ok (.invokespecial 23, 3) := by decide +kernel
theorem d_Ff_init_41 : decode (mB m_Ff_init) 41 = .ok (.putfield 24, 3) := by decide +kernel
theorem d_Ff_init_44 : decode (mB m_Ff_init) 44 = .ok (.aload_n 0, 1) := by decide +kernel
theorem d_Ff_init_45 : decode (mB m_Ff_init) 45 = .ok (.new 7, 3) := by decide +kernel
theorem d_Ff_init_48 : decode (mB m_Ff_init) 48 = .ok (.dup, 1) := by decide +kernel
theorem d_Ff_init_49 : decode (mB m_Ff_init) 49 = .ok (.bipush 120, 2) := by decide +kernel
theorem d_Ff_init_51 : decode (mB m_Ff_init) 51 = .ok (.invokespecial 11, 3) := by decide +kernel
theorem d_Ff_init_54 : decode (mB m_Ff_init) 54 = .ok (.putfield 28, 3) := by decide +kernel
theorem d_Ff_init_57 : decode (mB m_Ff_init) 57 = .ok (.aload_n 0, 1) := by decide +kernel
theorem d_Ff_init_58 : decode (mB m_Ff_init) 58 = .ok (.new 21, 3) := by decide +kernel
theorem d_Ff_init_61 : decode (mB m_Ff_init) 61 = .ok (.dup, 1) := by decide +kernel
theorem d_Ff_init_62 : decode (mB m_Ff_init) 62 = .ok (.sipush 160, 3) := by decide +kernel
theorem d_Ff_init_65 : decode (mB m_Ff_init) 65 = .ok (.invokespecial 23, 3) := by decide +kernel
theorem d_Ff_init_68 : decode (mB m_Ff_init) 68 = .ok (.putfield 31, 3) := by decide +kernel
theorem d_Ff_init_71 : decode (mB m_Ff_init) 71 = .ok (.aload_n 0, 1) := by decide +kernel
theorem d_Ff_init_72 : decode (mB m_Ff_init) 72 = .ok (.new 34, 3) := by decide +kernel
theorem d_Ff_init_75 : decode (mB m_Ff_init) 75 = .ok (.dup, 1) := by decide +kernel
theorem d_Ff_init_76 : decode (mB m_Ff_init) 76 = .ok (.invokespecial 36, 3) := by decide +kernel
theorem d_Ff_init_79 : decode (mB m_Ff_init) 79 = .ok (.putfield 37, 3) := by decide +kernel
theorem d_Ff_init_82 : decode (mB m_Ff_init) 82 = .ok (.aload_n 0, 1) := by decide +kernel
theorem d_Ff_init_83 : decode (mB m_Ff_init) 83 = .ok (.new 34, 3) := by decide +kernel
theorem d_Ff_init_86 : decode (mB m_Ff_init) 86 = .ok (.dup, 1) := by decide +kernel
theorem d_Ff_init_87 : decode (mB m_Ff_init) 87 = .ok (.invokespecial 36, 3) := by decide +kernel
theorem d_Ff_init_90 : decode (mB m_Ff_init) 90 = .ok (.putfield 41, 3) := by decide +kernel
theorem d_Ff_init_93 : decode (mB m_Ff_init) 93 = .ok (.aload_n 0, 1) := by decide +kernel
theorem d_Ff_init_94 : decode (mB m_Ff_init) 94 = .ok (.iconst 0, 1) := by decide +kernel
theorem d_Ff_init_95 : decode (mB m_Ff_init) 95 = .ok (.putfield 44, 3) := by decide +kernel
theorem d_Ff_init_98 : decode (mB m_Ff_init) 98 = .ok (.aload_n 0, 1) := by decide +kernel
theorem d_Ff_init_99 : decode (mB m_Ff_init) 99 = .ok (.iconst (-1), 1) := by decide +kernel
theorem d_Ff_init_100 : decode (mB m_Ff_init) 100 = .ok (.putfield 48, 3) := by decide +kernel
theorem d_Ff_init_103 : decode (mB m_Ff_init) 103 = .ok (.aload_n 0, 1) := by decide +kernel
theorem d_Ff_init_104 : decode (mB m_Ff_init) 104 = .ok (.iconst (-1), 1) := by decide +kernel
theorem d_Ff_init_105 : decode (mB m_Ff_init) 105 = .ok (.putfield 52, 3) := by decide +kernel
theorem d_Ff_init_108 : decode (mB m_Ff_init) 108 = .ok (.return_, 1) := by decide +kernel
theorem d_Ff_type_0 : decode (mB m_Ff_type) 0 = .ok (.iconst 0, 1) := by decide +kernel
theorem d_Ff_type_1 : decode (mB m_Ff_type) 1 = .ok (.istore_n 3, 1) := by decide +kernel
theorem d_Ff_type_2 : decode (mB m_Ff_type) 2 = .ok (.bipush 56, 2) := by decide +kernel
theorem d_Ff_type_4 : decode (mB m_Ff_type) 4 = .ok (.istore 4, 2) := by decide +kernel
theorem d_Ff_type_6 : decode (mB m_Ff_type) 6 = .ok (.iload 4, 2) := by decide +kernel
theorem d_Ff_type_8 : decode (mB m_Ff_type) 8 = .ok (.ifCond .lt 59, 3) := by decide +kernel
theorem d_Ff_type_11 : decode (mB m_Ff_type) 11 = .ok (.lload_n 1, 1) := by decide +kernel
theorem d_Ff_type_12 : decode (mB m_Ff_type) 12 = .ok (.iload 4, 2) := by decide +kernel
theorem d_Ff_type_14 : decode (mB m_Ff_type) 14 = .ok (.invokestatic 55, 3) := by decide +kernel
theorem d_Ff_type_17 : decode (mB m_Ff_type) 17 = .ok (.istore 5, 2) := by decide +kernel
theorem d_Ff_type_19 : decode (mB m_Ff_type) 19 = .ok (.iload 5, 2) := by decide +kernel
theorem d_Ff_type_21 : decode (mB m_Ff_type) 21 = .ok (.ifCond .eq 27, 3) := by decide +kernel
theorem d_Ff_type_24 : decode (mB m_Ff_type) 24 = .ok (.iload 5, 2) := by decide +kernel
theorem d_Ff_type_26 : decode (mB m_Ff_type) 26 = .ok (.bipush 33, 2) := by decide +kernel
theorem d_Ff_type_28 : decode (mB m_Ff_type) 28 = .ok (.if_icmp .lt 10, 3) := by decide +kernel
theorem d_Ff_type_31 : decode (mB m_Ff_type) 31 = .ok (.iload 5, 2) := by decide +kernel
theorem d_Ff_type_33 : decode (mB m_Ff_type) 33 = .ok (.bipush 126, 2) := by decide +kernel
theorem d_Ff_type_35 : decode (mB m_Ff_type) 35 = .ok (.if_icmp .le 13, 3) := by decide +kernel
theorem d_Ff_type_38 : decode (mB m_Ff_type) 38 = .ok (.new 59, 3) := by decide +kernel
theorem d_Ff_type_41 : decode (mB m_Ff_type) 41 = .ok (.dup, 1) := by decide +kernel
theorem d_Ff_type_42 : decode (mB m_Ff_type) 42 = .ok (.ldc 61, 2) := by decide +kernel
theorem d_Ff_type_44 : decode (mB m_Ff_type) 44 = .ok (.invokespecial 63, 3) := by decide +kernel
theorem d_Ff_type_47 : decode (mB m_Ff_type) 47 = .ok (.athrow, 1) := by decide +kernel
theorem d_Ff_type_48 : decode (mB m_Ff_type) 48 = .ok (.iload_n 3, 1) := by decide +kernel
theorem d_Ff_type_49 : decode (mB m_Ff_type) 49 = .ok (.iload 5, 2) := by decide +kernel
theorem d_Ff_type_51 : decode (mB m_Ff_type) 51 = .ok (.ifCond .eq 7, 3) := by decide +kernel
theorem d_Ff_type_54 : decode (mB m_Ff_type) 54 = .ok (.iconst 1, 1) := by decide +kernel
theorem d_Ff_type_55 : decode (mB m_Ff_type) 55 = .ok (.goto 4, 3) := by decide +kernel
theorem d_Ff_type_58 : decode (mB m_Ff_type) 58 = .ok (.iconst 0, 1) := by decide +kernel
theorem d_Ff_type_59 : decode (mB m_Ff_type) 59 = .ok (.iadd, 1) := by decide +kernel
theorem d_Ff_type_60 : decode (mB m_Ff_type) 60 = .ok (.istore_n 3, 1) := by decide +kernel
theorem d_Ff_type_61 : decode (mB m_Ff_type) 61 = .ok (.iinc 4 (-8), 3) := by decide +kernel
theorem d_Ff_type_64 : decode (mB m_Ff_type) 64 = .ok (.goto (-58), 3) := by decide +kernel
theorem d_Ff_type_67 : decode (mB m_Ff_type) 67 = .ok (.aload_n 0, 1) := by decide +kernel
theorem d_Ff_type_68 : decode (mB m_Ff_type) 68 = .ok (.getfield 14, 3) := by decide +kernel
theorem d_Ff_type_71 : decode (mB m_Ff_type) 71 = .ok (.iload_n 3, 1) := by decide +kernel
theorem d_Ff_type_72 : decode (mB m_Ff_type) 72 = .ok (.invokevirtual 66, 3) := by decide +kernel
theorem d_Ff_type_75 : decode (mB m_Ff_type) 75 = .ok (.ifCond .ne 13, 3) := by decide +kernel
theorem d_Ff_type_78 : decode (mB m_Ff_type) 78 = .ok (.new 70, 3) := by decide +kernel
theorem d_Ff_type_81 : decode (mB m_Ff_type) 81 = .ok (.dup, 1) := by decide +kernel
theorem d_Ff_type_82 : decode (mB m_Ff_type) 82 = .ok (.ldc 72, 2) := by decide +kernel
theorem d_Ff_type_84 : decode (mB m_Ff_type) 84 = .ok (.invokespecial 74, 3) := by decide +kernel
theorem d_Ff_type_87 : decode (mB m_Ff_type) 87 = .ok (.athrow, 1) := by decide +kernel
theorem d_Ff_type_88 : decode (mB m_Ff_type) 88 = .ok (.bipush 56, 2) := by decide +kernel
theorem d_Ff_type_90 : decode (mB m_Ff_type) 90 = .ok (.istore 4, 2) := by decide +kernel
theorem d_Ff_type_92 : decode (mB m_Ff_type) 92 = .ok (.iload 4, 2) := by decide +kernel
theorem d_Ff_type_94 : decode (mB m_Ff_type) 94 = .ok (.ifCond .lt 32, 3) := by decide +kernel
theorem d_Ff_type_97 : decode (mB m_Ff_type) 97 = .ok (.lload_n 1, 1) := by decide +kernel
theorem d_Ff_type_98 : decode (mB m_Ff_type) 98 = .ok (.iload 4, 2) := by decide +kernel
theorem d_Ff_type_100 : decode (mB m_Ff_type) 100 = .ok (.invokestatic 55, 3) := by decide +kernel
theorem d_Ff_type_103 : decode (mB m_Ff_type) 103 = .ok (.istore 5, 2) := by decide +kernel
theorem d_Ff_type_105 : decode (mB m_Ff_type) 105 = .ok (.iload 5, 2) := by decide +kernel
theorem d_Ff_type_107 : decode (mB m_Ff_type) 107 = .ok (.ifCond .eq 13, 3) := by decide +kernel
theorem d_Ff_type_110 : decode (mB m_Ff_type) 110 = .ok (.aload_n 0, 1) := by decide +kernel
theorem d_Ff_type_111 : decode (mB m_Ff_type) 111 = .ok (.getfield 14, 3) := by decide +kernel
theorem d_Ff_type_114 : decode (mB m_Ff_type) 114 = .ok (.iload 5, 2) := by decide +kernel
theorem d_Ff_type_116 : decode (mB m_Ff_type) 116 = .ok (.invokevirtual 75, 3) := by decide +kernel
theorem d_Ff_type_119 : decode (mB m_Ff_type) 119 = .ok (.pop, 1) := by decide +kernel
theorem d_Ff_type_120 : decode (mB m_Ff_type) 120 = .ok (.iinc 4 (-8), 3) := by decide +kernel
theorem d_Ff_type_123 : decode (mB m_Ff_type) 123 = .ok (.goto (-31), 3) := by decide +kernel
theorem d_Ff_type_126 : decode (mB m_Ff_type) 126 = .ok (.aload_n 0, 1) := by decide +kernel
theorem d_Ff_type_127 : decode (mB m_Ff_type) 127 = .ok (.getfield 14, 3) := by decide +kernel
theorem d_Ff_type_130 : decode (mB m_Ff_type) 130 = .ok (.getfield 78, 3) := by decide +kernel
theorem d_Ff_type_133 : decode (mB m_Ff_type) 133 = .ok (.ireturn, 1) := by decide +kernel
theorem d_Ff_clear_0 : decode (mB m_Ff_clear) 0 = .ok (.aload_n 0, 1) := by decide +kernel
theorem d_Ff_clear_1 : decode (mB m_Ff_clear) 1 = .ok (.getfield 14, 3) := by decide +kernel
theorem d_Ff_clear_4 : decode (mB m_Ff_clear) 4 = .ok (.getfield 78, 3) := by decide +kernel
theorem d_Ff_clear_7 : decode (mB m_Ff_clear) 7 = .ok (.istore_n 1, 1) := by decide +kernel
theorem d_Ff_clear_8 : decode (mB m_Ff_clear) 8 = .ok (.aload_n 0, 1) := by decide +kernel
theorem d_Ff_clear_9 : decode (mB m_Ff_clear) 9 = .ok (.getfield 14, 3) := by decide +kernel
theorem d_Ff_clear_12 : decode (mB m_Ff_clear) 12 = .ok (.invokevirtual 81, 3) := by decide +kernel
theorem d_Ff_clear_15 : decode (mB m_Ff_clear) 15 = .ok (.iload_n 1, 1) := by decide +kernel
theorem d_Ff_clear_16 : decode (mB m_Ff_clear) 16 = .ok (.ireturn, 1) := by decide +kernel
theorem d_Ff_fault_0 : decode (mB m_Ff_fault) 0 = .ok (.new 84, 3) := by decide +kernel
theorem d_Ff_fault_3 : decode (mB m_Ff_fault) 3 = .ok (.dup, 1) := by decide +kernel
theorem d_Ff_fault_4 : decode (mB m_Ff_fault) 4 = .ok (.aload_n 0, 1) := by decide +kernel
theorem d_Ff_fault_5 : decode (mB m_Ff_fault) 5 = .ok (.getfield 14, 3) := by decide +kernel
theorem d_Ff_fault_8 : decode (mB m_Ff_fault) 8 = .ok (.aload_n 0, 1) := by decide +kernel
theorem d_Ff_fault_9 : decode (mB m_Ff_fault) 9 = .ok (.getfield 37, 3) := by decide +kernel
theorem d_Ff_fault_12 : decode (mB m_Ff_fault) 12 = .ok (.invokespecial 86, 3) := by decide +kernel
theorem d_Ff_fault_15 : decode (mB m_Ff_fault) 15 = .ok (.invokevirtual 89, 3) := by decide +kernel
theorem d_Ff_fault_18 : decode (mB m_Ff_fault) 18 = .ok (.ireturn, 1) := by decide +kernel
theorem d_Ff_compile_0 : decode (mB m_Ff_compile) 0 = .ok (.aload_n 0, 1) := by decide +kernel
theorem d_Ff_compile_1 : decode (mB m_Ff_compile) 1 = .ok (.iconst 0, 1) := by decide +kernel
theorem d_Ff_compile_2 : decode (mB m_Ff_compile) 2 = .ok (.putfield 44, 3) := by decide +kernel
theorem d_Ff_compile_5 : decode (mB m_Ff_compile) 5 = .ok (.new 84, 3) := by decide +kernel
theorem d_Ff_compile_8 : decode (mB m_Ff_compile) 8 = .ok (.dup, 1) := by decide +kernel
theorem d_Ff_compile_9 : decode (mB m_Ff_compile) 9 = .ok (.aload_n 0, 1) := by decide +kernel
theorem d_Ff_compile_10 : decode (mB m_Ff_compile) 10 = .ok (.getfield 14, 3) := by decide +kernel
theorem d_Ff_compile_13 : decode (mB m_Ff_compile) 13 = .ok (.aload_n 0, 1) := by decide +kernel
theorem d_Ff_compile_14 : decode (mB m_Ff_compile) 14 = .ok (.getfield 37, 3) := by decide +kernel
theorem d_Ff_compile_17 : decode (mB m_Ff_compile) 17 = .ok (.invokespecial 86, 3) := by decide +kernel
theorem d_Ff_compile_20 : decode (mB m_Ff_compile) 20 = .ok (.invokevirtual 89, 3) := by decide +kernel
theorem d_Ff_compile_23 : decode (mB m_Ff_compile) 23 = .ok (.bipush (-2), 2) := by decide +kernel
theorem d_Ff_compile_25 : decode (mB m_Ff_compile) 25 = .ok (.if_icmp .eq 13, 3) := by decide +kernel
theorem d_Ff_compile_28 : decode (mB m_Ff_compile) 28 = .ok (.new 93, 3) := by decide +kernel
theorem d_Ff_compile_31 : decode (mB m_Ff_compile) 31 = .ok (.dup, 1) := by decide +kernel
theorem d_Ff_compile_32 : decode (mB m_Ff_compile) 32 = .ok (.ldc 95, 2) := by decide +kernel
theorem d_Ff_compile_34 : decode (mB m_Ff_compile) 34 = .ok (.invokespecial 97, 3) := by decide +kernel
theorem d_Ff_compile_37 : decode (mB m_Ff_compile) 37 = .ok (.athrow, 1) := by decide +kernel
theorem d_Ff_compile_38 : decode (mB m_Ff_compile) 38 = .ok (.aload_n 0, 1) := by decide +kernel
theorem d_Ff_compile_39 : decode (mB m_Ff_compile) 39 = .ok (.getfield 37, 3) := by decide +kernel
theorem d_Ff_compile_42 : decode (mB m_Ff_compile) 42 = .ok (.invokevirtual 98, 3) := by decide +kernel
theorem d_Ff_compile_45 : decode (mB m_Ff_compile) 45 = .ok (.ifCond .ne 13, 3) := by decide +kernel
theorem d_Ff_compile_48 : decode (mB m_Ff_compile) 48 = .ok (.new 70, 3) := by decide +kernel
theorem d_Ff_compile_51 : decode (mB m_Ff_compile) 51 = .ok (.dup, 1) := by decide +kernel
theorem d_Ff_compile_52 : decode (mB m_Ff_compile) 52 = .ok (.ldc 102, 2) := by decide +kernel
theorem d_Ff_compile_54 : decode (mB m_Ff_compile) 54 = .ok (.invokespecial 74, 3) := by decide +kernel
theorem d_Ff_compile_57 : decode (mB m_Ff_compile) 57 = .ok (.athrow, 1) := by decide +kernel
theorem d_Ff_compile_58 : decode (mB m_Ff_compile) 58 = .ok (.aload_n 0, 1) := by decide +kernel
theorem d_Ff_compile_59 : decode (mB m_Ff_compile) 59 = .ok (.getfield 41, 3) := by decide +kernel
theorem d_Ff_compile_62 : decode (mB m_Ff_compile) 62 = .ok (.astore_n 1, 1) := by decide +kernel
theorem d_Ff_compile_63 : decode (mB m_Ff_compile) 63 = .ok (.aload_n 0, 1) := by decide +kernel
theorem d_Ff_compile_64 : decode (mB m_Ff_compile) 64 = .ok (.aload_n 0, 1) := by decide +kernel
theorem d_Ff_compile_65 : decode (mB m_Ff_compile) 65 = .ok (.getfield 37, 3) := by decide +kernel
theorem d_Ff_compile_68 : decode (mB m_Ff_compile) 68 = .ok (.putfield 41, 3) := by decide +kernel
theorem d_Ff_compile_71 : decode (mB m_Ff_compile) 71 = .ok (.aload_n 0, 1) := by decide +kernel
theorem d_Ff_compile_72 : decode (mB m_Ff_compile) 72 = .ok (.aload_n 1, 1) := by decide +kernel
theorem d_Ff_compile_73 : decode (mB m_Ff_compile) 73 = .ok (.putfield 37, 3) := by decide +kernel
theorem d_Ff_compile_76 : decode (mB m_Ff_compile) 76 = .ok (.aload_n 0, 1) := by decide +kernel
theorem d_Ff_compile_77 : decode (mB m_Ff_compile) 77 = .ok (.iconst 1, 1) := by decide +kernel
theorem d_Ff_compile_78 : decode (mB m_Ff_compile) 78 = .ok (.putfield 44, 3) := by decide +kernel
theorem d_Ff_compile_81 : decode (mB m_Ff_compile) 81 = .ok (.aload_n 0, 1) := by decide +kernel
theorem d_Ff_compile_82 : decode (mB m_Ff_compile) 82 = .ok (.getfield 41, 3) := by decide +kernel
theorem d_Ff_compile_85 : decode (mB m_Ff_compile) 85 = .ok (.invokevirtual 104, 3) := by decide +kernel
theorem d_Ff_compile_88 : decode (mB m_Ff_compile) 88 = .ok (.ireturn, 1) := by decide +kernel
theorem d_Ff_size_0 : decode (mB m_Ff_size) 0 = .ok (.aload_n 0, 1) := by decide +kernel
theorem d_Ff_size_1 : decode (mB m_Ff_size) 1 = .ok (.getfield 44, 3) := by decide +kernel
theorem d_Ff_size_4 : decode (mB m_Ff_size) 4 = .ok (.ifCond .ne 13, 3) := by decide +kernel
theorem d_Ff_size_7 : decode (mB m_Ff_size) 7 = .ok (.new 107, 3) := by decide +kernel
theorem d_Ff_size_10 : decode (mB m_Ff_size) 10 = .ok (.dup, 1) := by decide +kernel
theorem d_Ff_size_11 : decode (mB m_Ff_size) 11 = .ok (.ldc 109, 2) := by decide +kernel
theorem d_Ff_size_13 : decode (mB m_Ff_size) 13 = .ok (.invokespecial 111, 3) := by decide +kernel
theorem d_Ff_size_16 : decode (mB m_Ff_size) 16 = .ok (.athrow, 1) := by decide +kernel
theorem d_Ff_size_17 : decode (mB m_Ff_size) 17 = .ok (.iload_n 1, 1) := by decide +kernel
theorem d_Ff_size_18 : decode (mB m_Ff_size) 18 = .ok (.ifCond .eq 13, 3) := by decide +kernel
theorem d_Ff_size_21 : decode (mB m_Ff_size) 21 = .ok (.aload_n 0, 1) := by decide +kernel
theorem d_Ff_size_22 : decode (mB m_Ff_size) 22 = .ok (.getfield 41, 3) := by decide +kernel
theorem d_Ff_size_25 : decode (mB m_Ff_size) 25 = .ok (.invokevirtual 104, 3) := by decide +kernel
theorem d_Ff_size_28 : decode (mB m_Ff_size) 28 = .ok (.goto 10, 3) := by decide +kernel
theorem d_Ff_size_31 : decode (mB m_Ff_size) 31 = .ok (.aload_n 0, 1) := by decide +kernel
theorem d_Ff_size_32 : decode (mB m_Ff_size) 32 = .ok (.getfield 41, 3) := by decide +kernel
theorem d_Ff_size_35 : decode (mB m_Ff_size) 35 = .ok (.invokevirtual 112, 3) := by decide +kernel
theorem d_Ff_size_38 : decode (mB m_Ff_size) 38 = .ok (.ireturn, 1) := by decide +kernel
theorem d_Ff_put_0 : decode (mB m_Ff_put) 0 = .ok (.iload_n 3, 1) := by decide +kernel
theorem d_Ff_put_1 : decode (mB m_Ff_put) 1 = .ok (.iconst 1, 1) := by decide +kernel
theorem d_Ff_put_2 : decode (mB m_Ff_put) 2 = .ok (.if_icmp .lt 9, 3) := by decide +kernel
theorem d_Ff_put_5 : decode (mB m_Ff_put) 5 = .ok (.iload_n 3, 1) := by decide +kernel
theorem d_Ff_put_6 : decode (mB m_Ff_put) 6 = .ok (.bipush 8, 2) := by decide +kernel
theorem d_Ff_put_8 : decode (mB m_Ff_put) 8 = .ok (.if_icmp .le 13, 3) := by decide +kernel
theorem d_Ff_put_11 : decode (mB m_Ff_put) 11 = .ok (.new 59, 3) := by decide +kernel
theorem d_Ff_put_14 : decode (mB m_Ff_put) 14 = .ok (.dup, 1) := by decide +kernel
theorem d_Ff_put_15 : decode (mB m_Ff_put) 15 = .ok (.ldc 115, 2) := by decide +kernel
theorem d_Ff_put_17 : decode (mB m_Ff_put) 17 = .ok (.invokespecial 63, 3) := by decide +kernel
theorem d_Ff_put_20 : decode (mB m_Ff_put) 20 = .ok (.athrow, 1) := by decide +kernel
theorem d_Ff_put_21 : decode (mB m_Ff_put) 21 = .ok (.aload_n 0, 1) := by decide +kernel
theorem d_Ff_put_22 : decode (mB m_Ff_put) 22 = .ok (.getfield 18, 3) := by decide +kernel
theorem d_Ff_put_25 : decode (mB m_Ff_put) 25 = .ok (.iload_n 3, 1) := by decide +kernel
theorem d_Ff_put_26 : decode (mB m_Ff_put) 26 = .ok (.invokevirtual 66, 3) := by decide +kernel
theorem d_Ff_put_29 : decode (mB m_Ff_put) 29 = .ok (.ifCond .ne 13, 3) := by decide +kernel
theorem d_Ff_put_32 : decode (mB m_Ff_put) 32 = .ok (.new 70, 3) := by decide +kernel
theorem d_Ff_put_35 : decode (mB m_Ff_put) 35 = .ok (.dup, 1) := by decide +kernel
theorem d_Ff_put_36 : decode (mB m_Ff_put) 36 = .ok (.ldc 117, 2) := by decide +kernel
theorem d_Ff_put_38 : decode (mB m_Ff_put) 38 = .ok (.invokespecial 74, 3) := by decide +kernel
theorem d_Ff_put_41 : decode (mB m_Ff_put) 41 = .ok (.athrow, 1) := by decide +kernel
theorem d_Ff_put_42 : decode (mB m_Ff_put) 42 = .ok (.bipush 8, 2) := by decide +kernel
theorem d_Ff_put_44 : decode (mB m_Ff_put) 44 = .ok (.iload_n 3, 1) := by decide +kernel
theorem d_Ff_put_45 : decode (mB m_Ff_put) 45 = .ok (.imul, 1) := by decide +kernel
theorem d_Ff_put_46 : decode (mB m_Ff_put) 46 = .ok (.bipush 8, 2) := by decide +kernel
theorem d_Ff_put_48 : decode (mB m_Ff_put) 48 = .ok (.isub, 1) := by decide +kernel
theorem d_Ff_put_49 : decode (mB m_Ff_put) 49 = .ok (.istore 4, 2) := by decide +kernel
theorem d_Ff_put_51 : decode (mB m_Ff_put) 51 = .ok (.iload 4, 2) := by decide +kernel
theorem d_Ff_put_53 : decode (mB m_Ff_put) 53 = .ok (.ifCond .lt 23, 3) := by decide +kernel
theorem d_Ff_put_56 : decode (mB m_Ff_put) 56 = .ok (.aload_n 0, 1) := by decide +kernel
theorem d_Ff_put_57 : decode (mB m_Ff_put) 57 = .ok (.getfield 18, 3) := by decide +kernel
theorem d_Ff_put_60 : decode (mB m_Ff_put) 60 = .ok (.lload_n 1, 1) := by decide +kernel
theorem d_Ff_put_61 : decode (mB m_Ff_put) 61 = .ok (.iload 4, 2) := by decide +kernel
theorem d_Ff_put_63 : decode (mB m_Ff_put) 63 = .ok (.invokestatic 55, 3) := by decide +kernel
theorem d_Ff_put_66 : decode (mB m_Ff_put) 66 = .ok (.invokevirtual 75, 3) := by decide +kernel
theorem d_Ff_put_69 : decode (mB m_Ff_put) 69 = .ok (.pop, 1) := by decide +kernel
theorem d_Ff_put_70 : decode (mB m_Ff_put) 70 = .ok (.iinc 4 (-8), 3) := by decide +kernel
theorem d_Ff_put_73 : decode (mB m_Ff_put) 73 = .ok (.goto (-22), 3) := by decide +kernel
theorem d_Ff_put_76 : decode (mB m_Ff_put) 76 = .ok (.aload_n 0, 1) := by decide +kernel
theorem d_Ff_put_77 : decode (mB m_Ff_put) 77 = .ok (.getfield 18, 3) := by decide +kernel
theorem d_Ff_put_80 : decode (mB m_Ff_put) 80 = .ok (.getfield 78, 3) := by decide +kernel
theorem d_Ff_put_83 : decode (mB m_Ff_put) 83 = .ok (.ireturn, 1) := by decide +kernel
theorem d_Ff_cut_0 : decode (mB m_Ff_cut) 0 = .ok (.iload_n 1, 1) := by decide +kernel
theorem d_Ff_cut_1 : decode (mB m_Ff_cut) 1 = .ok (.ifCond .lt 14, 3) := by decide +kernel
theorem d_Ff_cut_4 : decode (mB m_Ff_cut) 4 = .ok (.iload_n 1, 1) := by decide +kernel
theorem d_Ff_cut_5 : decode (mB m_Ff_cut) 5 = .ok (.aload_n 0, 1) := by decide +kernel
theorem d_Ff_cut_6 : decode (mB m_Ff_cut) 6 = .ok (.getfield 18, 3) := by decide +kernel
theorem d_Ff_cut_9 : decode (mB m_Ff_cut) 9 = .ok (.getfield 78, 3) := by decide +kernel
theorem d_Ff_cut_12 : decode (mB m_Ff_cut) 12 = .ok (.if_icmp .le 13, 3) := by decide +kernel
theorem d_Ff_cut_15 : decode (mB m_Ff_cut) 15 = .ok (.new 59, 3) := by decide +kernel
theorem d_Ff_cut_18 : decode (mB m_Ff_cut) 18 = .ok (.dup, 1) := by decide +kernel
theorem d_Ff_cut_19 : decode (mB m_Ff_cut) 19 = .ok (.ldc 119, 2) := by decide +kernel
theorem d_Ff_cut_21 : decode (mB m_Ff_cut) 21 = .ok (.invokespecial 63, 3) := by decide +kernel
theorem d_Ff_cut_24 : decode (mB m_Ff_cut) 24 = .ok (.athrow, 1) := by decide +kernel
theorem d_Ff_cut_25 : decode (mB m_Ff_cut) 25 = .ok (.aload_n 0, 1) := by decide +kernel
theorem d_Ff_cut_26 : decode (mB m_Ff_cut) 26 = .ok (.getfield 18, 3) := by decide +kernel
theorem d_Ff_cut_29 : decode (mB m_Ff_cut) 29 = .ok (.iload_n 1, 1) := by decide +kernel
theorem d_Ff_cut_30 : decode (mB m_Ff_cut) 30 = .ok (.invokevirtual 121, 3) := by decide +kernel
theorem d_Ff_cut_33 : decode (mB m_Ff_cut) 33 = .ok (.iload_n 1, 1) := by decide +kernel
theorem d_Ff_cut_34 : decode (mB m_Ff_cut) 34 = .ok (.ireturn, 1) := by decide +kernel
theorem d_Ff_read_0 : decode (mB m_Ff_read) 0 = .ok (.aload_n 0, 1) := by decide +kernel
theorem d_Ff_read_1 : decode (mB m_Ff_read) 1 = .ok (.invokevirtual 124, 3) := by decide +kernel
theorem d_Ff_read_4 : decode (mB m_Ff_read) 4 = .ok (.aload_n 0, 1) := by decide +kernel
theorem d_Ff_read_5 : decode (mB m_Ff_read) 5 = .ok (.getfield 31, 3) := by decide +kernel
theorem d_Ff_read_8 : decode (mB m_Ff_read) 8 = .ok (.invokevirtual 127, 3) := by decide +kernel
theorem d_Ff_read_11 : decode (mB m_Ff_read) 11 = .ok (.new 128, 3) := by decide +kernel
theorem d_Ff_read_14 : decode (mB m_Ff_read) 14 = .ok (.dup, 1) := by decide +kernel
theorem d_Ff_read_15 : decode (mB m_Ff_read) 15 = .ok (.aload_n 0, 1) := by decide +kernel
theorem d_Ff_read_16 : decode (mB m_Ff_read) 16 = .ok (.getfield 18, 3) := by decide +kernel
theorem d_Ff_read_19 : decode (mB m_Ff_read) 19 = .ok (.aload_n 0, 1) := by decide +kernel
theorem d_Ff_read_20 : decode (mB m_Ff_read) 20 = .ok (.getfield 31, 3) := by decide +kernel
theorem d_Ff_read_23 : decode (mB m_Ff_read) 23 = .ok (.invokespecial 130, 3) := by decide +kernel
theorem d_Ff_read_26 : decode (mB m_Ff_read) 26 = .ok (.astore_n 1, 1) := by decide +kernel
theorem d_Ff_read_27 : decode (mB m_Ff_read) 27 = .ok (.aload_n 0, 1) := by decide +kernel
theorem d_Ff_read_28 : decode (mB m_Ff_read) 28 = .ok (.aload_n 1, 1) := by decide +kernel
theorem d_Ff_read_29 : decode (mB m_Ff_read) 29 = .ok (.aload_n 1, 1) := by decide +kernel
theorem d_Ff_read_30 : decode (mB m_Ff_read) 30 = .ok (.aload_n 0, 1) := by decide +kernel
theorem d_Ff_read_31 : decode (mB m_Ff_read) 31 = .ok (.getfield 41, 3) := by decide +kernel
theorem d_Ff_read_34 : decode (mB m_Ff_read) 34 = .ok (.invokevirtual 133, 3) := by decide +kernel
theorem d_Ff_read_37 : decode (mB m_Ff_read) 37 = .ok (.invokevirtual 137, 3) := by decide +kernel
theorem d_Ff_read_40 : decode (mB m_Ff_read) 40 = .ok (.aload_n 1, 1) := by decide +kernel
theorem d_Ff_read_41 : decode (mB m_Ff_read) 41 = .ok (.invokevirtual 141, 3) := by decide +kernel
theorem d_Ff_read_44 : decode (mB m_Ff_read) 44 = .ok (.aload_n 0, 1) := by decide +kernel
theorem d_Ff_read_45 : decode (mB m_Ff_read) 45 = .ok (.getfield 18, 3) := by decide +kernel
theorem d_Ff_read_48 : decode (mB m_Ff_read) 48 = .ok (.getfield 78, 3) := by decide +kernel
theorem d_Ff_read_51 : decode (mB m_Ff_read) 51 = .ok (.if_icmp .ge 26, 3) := by decide +kernel
theorem d_Ff_read_54 : decode (mB m_Ff_read) 54 = .ok (.aload_n 0, 1) := by decide +kernel
theorem d_Ff_read_55 : decode (mB m_Ff_read) 55 = .ok (.aload_n 1, 1) := by decide +kernel
theorem d_Ff_read_56 : decode (mB m_Ff_read) 56 = .ok (.invokevirtual 141, 3) := by decide +kernel
theorem d_Ff_read_59 : decode (mB m_Ff_read) 59 = .ok (.putfield 48, 3) := by decide +kernel
theorem d_Ff_read_62 : decode (mB m_Ff_read) 62 = .ok (.aload_n 0, 1) := by decide +kernel
theorem d_Ff_read_63 : decode (mB m_Ff_read) 63 = .ok (.iconst (-1), 1) := by decide +kernel
theorem d_Ff_read_64 : decode (mB m_Ff_read) 64 = .ok (.putfield 52, 3) := by decide +kernel
theorem d_Ff_read_67 : decode (mB m_Ff_read) 67 = .ok (.new 144, 3) := by decide +kernel
theorem d_Ff_read_70 : decode (mB m_Ff_read) 70 = .ok (.dup, 1) := by decide +kernel
theorem d_Ff_read_71 : decode (mB m_Ff_read) 71 = .ok (.ldc 146, 2) := by decide +kernel
theorem d_Ff_read_73 : decode (mB m_Ff_read) 73 = .ok (.invokespecial 148, 3) := by decide +kernel
theorem d_Ff_read_76 : decode (mB m_Ff_read) 76 = .ok (.athrow, 1) := by decide +kernel
theorem d_Ff_read_77 : decode (mB m_Ff_read) 77 = .ok (.aload_n 0, 1) := by decide +kernel
theorem d_Ff_read_78 : decode (mB m_Ff_read) 78 = .ok (.getfield 24, 3) := by decide +kernel
theorem d_Ff_read_81 : decode (mB m_Ff_read) 81 = .ok (.aload_n 0, 1) := by decide +kernel
theorem d_Ff_read_82 : decode (mB m_Ff_read) 82 = .ok (.getfield 31, 3) := by decide +kernel
theorem d_Ff_read_85 : decode (mB m_Ff_read) 85 = .ok (.invokevirtual 149, 3) := by decide +kernel
theorem d_Ff_read_88 : decode (mB m_Ff_read) 88 = .ok (.aload_n 0, 1) := by decide +kernel
theorem d_Ff_read_89 : decode (mB m_Ff_read) 89 = .ok (.getfield 24, 3) := by decide +kernel
theorem d_Ff_read_92 : decode (mB m_Ff_read) 92 = .ok (.getfield 153, 3) := by decide +kernel
theorem d_Ff_read_95 : decode (mB m_Ff_read) 95 = .ok (.ireturn, 1) := by decide +kernel
theorem d_Ff_write_0 : decode (mB m_Ff_write) 0 = .ok (.aload_n 0, 1) := by decide +kernel
theorem d_Ff_write_1 : decode (mB m_Ff_write) 1 = .ok (.invokevirtual 124, 3) := by decide +kernel
theorem d_Ff_write_4 : decode (mB m_Ff_write) 4 = .ok (.aload_n 0, 1) := by decide +kernel
theorem d_Ff_write_5 : decode (mB m_Ff_write) 5 = .ok (.getfield 28, 3) := by decide +kernel
theorem d_Ff_write_8 : decode (mB m_Ff_write) 8 = .ok (.invokevirtual 81, 3) := by decide +kernel
theorem d_Ff_write_11 : decode (mB m_Ff_write) 11 = .ok (.new 154, 3) := by decide +kernel
theorem d_Ff_write_14 : decode (mB m_Ff_write) 14 = .ok (.dup, 1) := by decide +kernel
theorem d_Ff_write_15 : decode (mB m_Ff_write) 15 = .ok (.aload_n 0, 1) := by decide +kernel
theorem d_Ff_write_16 : decode (mB m_Ff_write) 16 = .ok (.getfield 24, 3) := by decide +kernel
theorem d_Ff_write_19 : decode (mB m_Ff_write) 19 = .ok (.aload_n 0, 1) := by decide +kernel
theorem d_Ff_write_20 : decode (mB m_Ff_write) 20 = .ok (.getfield 28, 3) := by decide +kernel
theorem d_Ff_write_23 : decode (mB m_Ff_write) 23 = .ok (.invokespecial 156, 3) := by decide +kernel
theorem d_Ff_write_26 : decode (mB m_Ff_write) 26 = .ok (.astore_n 1, 1) := by decide +kernel
theorem d_Ff_write_27 : decode (mB m_Ff_write) 27 = .ok (.aload_n 0, 1) := by decide +kernel
theorem d_Ff_write_28 : decode (mB m_Ff_write) 28 = .ok (.aload_n 1, 1) := by decide +kernel
theorem d_Ff_write_29 : decode (mB m_Ff_write) 29 = .ok (.aload_n 1, 1) := by decide +kernel
theorem d_Ff_write_30 : decode (mB m_Ff_write) 30 = .ok (.aload_n 0, 1) := by decide +kernel
theorem d_Ff_write_31 : decode (mB m_Ff_write) 31 = .ok (.getfield 41, 3) := by decide +kernel
theorem d_Ff_write_34 : decode (mB m_Ff_write) 34 = .ok (.invokevirtual 159, 3) := by decide +kernel
theorem d_Ff_write_37 : decode (mB m_Ff_write) 37 = .ok (.invokevirtual 137, 3) := by decide +kernel
theorem d_Ff_write_40 : decode (mB m_Ff_write) 40 = .ok (.aload_n 1, 1) := by decide +kernel
theorem d_Ff_write_41 : decode (mB m_Ff_write) 41 = .ok (.getfield 160, 3) := by decide +kernel
theorem d_Ff_write_44 : decode (mB m_Ff_write) 44 = .ok (.aload_n 0, 1) := by decide +kernel
theorem d_Ff_write_45 : decode (mB m_Ff_write) 45 = .ok (.getfield 24, 3) := by decide +kernel
theorem d_Ff_write_48 : decode (mB m_Ff_write) 48 = .ok (.getfield 153, 3) := by decide +kernel
theorem d_Ff_write_51 : decode (mB m_Ff_write) 51 = .ok (.if_icmp .ge 13, 3) := by decide +kernel
theorem d_Ff_write_54 : decode (mB m_Ff_write) 54 = .ok (.new 144, 3) := by decide +kernel
theorem d_Ff_write_57 : decode (mB m_Ff_write) 57 = .ok (.dup, 1) := by decide +kernel
theorem d_Ff_write_58 : decode (mB m_Ff_write) 58 = .ok (.ldc 163, 2) := by decide +kernel
theorem d_Ff_write_60 : decode (mB m_Ff_write) 60 = .ok (.invokespecial 148, 3) := by decide +kernel
theorem d_Ff_write_63 : decode (mB m_Ff_write) 63 = .ok (.athrow, 1) := by decide +kernel
theorem d_Ff_write_64 : decode (mB m_Ff_write) 64 = .ok (.aload_n 0, 1) := by decide +kernel
theorem d_Ff_write_65 : decode (mB m_Ff_write) 65 = .ok (.getfield 18, 3) := by decide +kernel
theorem d_Ff_write_68 : decode (mB m_Ff_write) 68 = .ok (.aload_n 0, 1) := by decide +kernel
theorem d_Ff_write_69 : decode (mB m_Ff_write) 69 = .ok (.getfield 28, 3) := by decide +kernel
theorem d_Ff_write_72 : decode (mB m_Ff_write) 72 = .ok (.invokevirtual 165, 3) := by decide +kernel
theorem d_Ff_write_75 : decode (mB m_Ff_write) 75 = .ok (.aload_n 0, 1) := by decide +kernel
theorem d_Ff_write_76 : decode (mB m_Ff_write) 76 = .ok (.getfield 18, 3) := by decide +kernel
theorem d_Ff_write_79 : decode (mB m_Ff_write) 79 = .ok (.getfield 78, 3) := by decide +kernel
theorem d_Ff_write_82 : decode (mB m_Ff_write) 82 = .ok (.ireturn, 1) := by decide +kernel
theorem d_Ff_value_0 : decode (mB m_Ff_value) 0 = .ok (.aload_n 0, 1) := by decide +kernel
theorem d_Ff_value_1 : decode (mB m_Ff_value) 1 = .ok (.iload_n 1, 1) := by decide +kernel
theorem d_Ff_value_2 : decode (mB m_Ff_value) 2 = .ok (.invokevirtual 168, 3) := by decide +kernel
theorem d_Ff_value_5 : decode (mB m_Ff_value) 5 = .ok (.aload_n 0, 1) := by decide +kernel
theorem d_Ff_value_6 : decode (mB m_Ff_value) 6 = .ok (.getfield 24, 3) := by decide +kernel
theorem d_Ff_value_9 : decode (mB m_Ff_value) 9 = .ok (.iload_n 1, 1) := by decide +kernel
theorem d_Ff_value_10 : decode (mB m_Ff_value) 10 = .ok (.invokevirtual 171, 3) := by decide +kernel
theorem d_Ff_value_13 : decode (mB m_Ff_value) 13 = .ok (.lreturn, 1) := by decide +kernel
theorem d_Ff_real_0 : decode (mB m_Ff_real) 0 = .ok (.aload_n 0, 1) := by decide +kernel
theorem d_Ff_real_1 : decode (mB m_Ff_real) 1 = .ok (.iload_n 1, 1) := by decide +kernel
theorem d_Ff_real_2 : decode (mB m_Ff_real) 2 = .ok (.invokevirtual 168, 3) := by decide +kernel
theorem d_Ff_real_5 : decode (mB m_Ff_real) 5 = .ok (.aload_n 0, 1) := by decide +kernel
theorem d_Ff_real_6 : decode (mB m_Ff_real) 6 = .ok (.getfield 24, 3) := by decide +kernel
theorem d_Ff_real_9 : decode (mB m_Ff_real) 9 = .ok (.iload_n 1, 1) := by decide +kernel
theorem d_Ff_real_10 : decode (mB m_Ff_real) 10 = .ok (.invokevirtual 171, 3) := by decide +kernel
theorem d_Ff_real_13 : decode (mB m_Ff_real) 13 = .ok (.invokestatic 175, 3) := by decide +kernel
theorem d_Ff_real_16 : decode (mB m_Ff_real) 16 = .ok (.dreturn, 1) := by decide +kernel
theorem d_Ff_set_0 : decode (mB m_Ff_set) 0 = .ok (.iload_n 1, 1) := by decide +kernel
theorem d_Ff_set_1 : decode (mB m_Ff_set) 1 = .ok (.ifCond .lt 14, 3) := by decide +kernel
theorem d_Ff_set_4 : decode (mB m_Ff_set) 4 = .ok (.iload_n 1, 1) := by decide +kernel
theorem d_Ff_set_5 : decode (mB m_Ff_set) 5 = .ok (.aload_n 0, 1) := by decide +kernel
theorem d_Ff_set_6 : decode (mB m_Ff_set) 6 = .ok (.getfield 24, 3) := by decide +kernel
theorem d_Ff_set_9 : decode (mB m_Ff_set) 9 = .ok (.getfield 153, 3) := by decide +kernel
theorem d_Ff_set_12 : decode (mB m_Ff_set) 12 = .ok (.if_icmp .le 13, 3) := by decide +kernel
theorem d_Ff_set_15 : decode (mB m_Ff_set) 15 = .ok (.new 59, 3) := by decide +kernel
theorem d_Ff_set_18 : decode (mB m_Ff_set) 18 = .ok (.dup, 1) := by decide +kernel
theorem d_Ff_set_19 : decode (mB m_Ff_set) 19 = .ok (.ldc 179, 2) := by decide +kernel
theorem d_Ff_set_21 : decode (mB m_Ff_set) 21 = .ok (.invokespecial 63, 3) := by decide +kernel
theorem d_Ff_set_24 : decode (mB m_Ff_set) 24 = .ok (.athrow, 1) := by decide +kernel
theorem d_Ff_set_25 : decode (mB m_Ff_set) 25 = .ok (.iload_n 1, 1) := by decide +kernel
theorem d_Ff_set_26 : decode (mB m_Ff_set) 26 = .ok (.aload_n 0, 1) := by decide +kernel
theorem d_Ff_set_27 : decode (mB m_Ff_set) 27 = .ok (.getfield 24, 3) := by decide +kernel
theorem d_Ff_set_30 : decode (mB m_Ff_set) 30 = .ok (.getfield 153, 3) := by decide +kernel
theorem d_Ff_set_33 : decode (mB m_Ff_set) 33 = .ok (.if_icmp .ge 15, 3) := by decide +kernel
theorem d_Ff_set_36 : decode (mB m_Ff_set) 36 = .ok (.aload_n 0, 1) := by decide +kernel
theorem d_Ff_set_37 : decode (mB m_Ff_set) 37 = .ok (.getfield 24, 3) := by decide +kernel
theorem d_Ff_set_40 : decode (mB m_Ff_set) 40 = .ok (.iload_n 1, 1) := by decide +kernel
theorem d_Ff_set_41 : decode (mB m_Ff_set) 41 = .ok (.lload_n 2, 1) := by decide +kernel
theorem d_Ff_set_42 : decode (mB m_Ff_set) 42 = .ok (.invokevirtual 181, 3) := by decide +kernel
theorem d_Ff_set_45 : decode (mB m_Ff_set) 45 = .ok (.goto 24, 3) := by decide +kernel
theorem d_Ff_set_48 : decode (mB m_Ff_set) 48 = .ok (.aload_n 0, 1) := by decide +kernel
theorem d_Ff_set_49 : decode (mB m_Ff_set) 49 = .ok (.getfield 24, 3) := by decide +kernel
theorem d_Ff_set_52 : decode (mB m_Ff_set) 52 = .ok (.lload_n 2, 1) := by decide +kernel
theorem d_Ff_set_53 : decode (mB m_Ff_set) 53 = .ok (.invokevirtual 185, 3) := by decide +kernel
theorem d_Ff_set_56 : decode (mB m_Ff_set) 56 = .ok (.ifCond .ne 13, 3) := by decide +kernel
theorem d_Ff_set_59 : decode (mB m_Ff_set) 59 = .ok (.new 70, 3) := by decide +kernel
theorem d_Ff_set_62 : decode (mB m_Ff_set) 62 = .ok (.dup, 1) := by decide +kernel
theorem d_Ff_set_63 : decode (mB m_Ff_set) 63 = .ok (.ldc 188, 2) := by decide +kernel
theorem d_Ff_set_65 : decode (mB m_Ff_set) 65 = .ok (.invokespecial 74, 3) := by decide +kernel
theorem d_Ff_set_68 : decode (mB m_Ff_set) 68 = .ok (.athrow, 1) := by decide +kernel
theorem d_Ff_set_69 : decode (mB m_Ff_set) 69 = .ok (.aload_n 0, 1) := by decide +kernel
theorem d_Ff_set_70 : decode (mB m_Ff_set) 70 = .ok (.getfield 24, 3) := by decide +kernel
theorem d_Ff_set_73 : decode (mB m_Ff_set) 73 = .ok (.getfield 153, 3) := by decide +kernel
theorem d_Ff_set_76 : decode (mB m_Ff_set) 76 = .ok (.ireturn, 1) := by decide +kernel
theorem d_Ff_drop_0 : decode (mB m_Ff_drop) 0 = .ok (.iload_n 1, 1) := by decide +kernel
theorem d_Ff_drop_1 : decode (mB m_Ff_drop) 1 = .ok (.ifCond .lt 31, 3) := by decide +kernel
theorem d_Ff_drop_4 : decode (mB m_Ff_drop) 4 = .ok (.iload_n 2, 1) := by decide +kernel
theorem d_Ff_drop_5 : decode (mB m_Ff_drop) 5 = .ok (.ifCond .lt 27, 3) := by decide +kernel
theorem d_Ff_drop_8 : decode (mB m_Ff_drop) 8 = .ok (.iload_n 1, 1) := by decide +kernel
theorem d_Ff_drop_9 : decode (mB m_Ff_drop) 9 = .ok (.aload_n 0, 1) := by decide +kernel
theorem d_Ff_drop_10 : decode (mB m_Ff_drop) 10 = .ok (.getfield 24, 3) := by decide +kernel
theorem d_Ff_drop_13 : decode (mB m_Ff_drop) 13 = .ok (.getfield 153, 3) := by decide +kernel
theorem d_Ff_drop_16 : decode (mB m_Ff_drop) 16 = .ok (.if_icmp .gt 16, 3) := by decide +kernel
theorem d_Ff_drop_19 : decode (mB m_Ff_drop) 19 = .ok (.iload_n 2, 1) := by decide +kernel
theorem d_Ff_drop_20 : decode (mB m_Ff_drop) 20 = .ok (.aload_n 0, 1) := by decide +kernel
theorem d_Ff_drop_21 : decode (mB m_Ff_drop) 21 = .ok (.getfield 24, 3) := by decide +kernel
theorem d_Ff_drop_24 : decode (mB m_Ff_drop) 24 = .ok (.getfield 153, 3) := by decide +kernel
theorem d_Ff_drop_27 : decode (mB m_Ff_drop) 27 = .ok (.iload_n 1, 1) := by decide +kernel
theorem d_Ff_drop_28 : decode (mB m_Ff_drop) 28 = .ok (.isub, 1) := by decide +kernel
theorem d_Ff_drop_29 : decode (mB m_Ff_drop) 29 = .ok (.if_icmp .le 13, 3) := by decide +kernel
theorem d_Ff_drop_32 : decode (mB m_Ff_drop) 32 = .ok (.new 144, 3) := by decide +kernel
theorem d_Ff_drop_35 : decode (mB m_Ff_drop) 35 = .ok (.dup, 1) := by decide +kernel
theorem d_Ff_drop_36 : decode (mB m_Ff_drop) 36 = .ok (.ldc 190, 2) := by decide +kernel
theorem d_Ff_drop_38 : decode (mB m_Ff_drop) 38 = .ok (.invokespecial 148, 3) := by decide +kernel
theorem d_Ff_drop_41 : decode (mB m_Ff_drop) 41 = .ok (.athrow, 1) := by decide +kernel
theorem d_Ff_drop_42 : decode (mB m_Ff_drop) 42 = .ok (.aload_n 0, 1) := by decide +kernel
theorem d_Ff_drop_43 : decode (mB m_Ff_drop) 43 = .ok (.getfield 24, 3) := by decide +kernel
theorem d_Ff_drop_46 : decode (mB m_Ff_drop) 46 = .ok (.iload_n 1, 1) := by decide +kernel
theorem d_Ff_drop_47 : decode (mB m_Ff_drop) 47 = .ok (.iload_n 2, 1) := by decide +kernel
theorem d_Ff_drop_48 : decode (mB m_Ff_drop) 48 = .ok (.invokevirtual 192, 3) := by decide +kernel
theorem d_Ff_drop_51 : decode (mB m_Ff_drop) 51 = .ok (.aload_n 0, 1) := by decide +kernel
theorem d_Ff_drop_52 : decode (mB m_Ff_drop) 52 = .ok (.getfield 24, 3) := by decide +kernel
theorem d_Ff_drop_55 : decode (mB m_Ff_drop) 55 = .ok (.getfield 153, 3) := by decide +kernel
theorem d_Ff_drop_58 : decode (mB m_Ff_drop) 58 = .ok (.ireturn, 1) := by decide +kernel
theorem d_Ff_byteAt_0 : decode (mB m_Ff_byteAt) 0 = .ok (.iload_n 1, 1) := by decide +kernel
theorem d_Ff_byteAt_1 : decode (mB m_Ff_byteAt) 1 = .ok (.ifCond .lt 14, 3) := by decide +kernel
theorem d_Ff_byteAt_4 : decode (mB m_Ff_byteAt) 4 = .ok (.iload_n 1, 1) := by decide +kernel
theorem d_Ff_byteAt_5 : decode (mB m_Ff_byteAt) 5 = .ok (.aload_n 0, 1) := by decide +kernel
theorem d_Ff_byteAt_6 : decode (mB m_Ff_byteAt) 6 = .ok (.getfield 18, 3) := by decide +kernel
theorem d_Ff_byteAt_9 : decode (mB m_Ff_byteAt) 9 = .ok (.getfield 78, 3) := by decide +kernel
theorem d_Ff_byteAt_12 : decode (mB m_Ff_byteAt) 12 = .ok (.if_icmp .lt 13, 3) := by decide +kernel
theorem d_Ff_byteAt_15 : decode (mB m_Ff_byteAt) 15 = .ok (.new 144, 3) := by decide +kernel
theorem d_Ff_byteAt_18 : decode (mB m_Ff_byteAt) 18 = .ok (.dup, 1) := by decide +kernel
theorem d_Ff_byteAt_19 : decode (mB m_Ff_byteAt) 19 = .ok (.ldc 196, 2) := by decide +kernel
theorem d_Ff_byteAt_21 : decode (mB m_Ff_byteAt) 21 = .ok (.invokespecial 148, 3) := by decide +kernel
theorem d_Ff_byteAt_24 : decode (mB m_Ff_byteAt) 24 = .ok (.athrow, 1) := by decide +kernel
theorem d_Ff_byteAt_25 : decode (mB m_Ff_byteAt) 25 = .ok (.aload_n 0, 1) := by decide +kernel
theorem d_Ff_byteAt_26 : decode (mB m_Ff_byteAt) 26 = .ok (.getfield 18, 3) := by decide +kernel
theorem d_Ff_byteAt_29 : decode (mB m_Ff_byteAt) 29 = .ok (.iload_n 1, 1) := by decide +kernel
theorem d_Ff_byteAt_30 : decode (mB m_Ff_byteAt) 30 = .ok (.invokevirtual 198, 3) := by decide +kernel
theorem d_Ff_byteAt_33 : decode (mB m_Ff_byteAt) 33 = .ok (.ireturn, 1) := by decide +kernel
theorem d_Ff_count_0 : decode (mB m_Ff_count) 0 = .ok (.iload_n 1, 1) := by decide +kernel
theorem d_Ff_count_1 : decode (mB m_Ff_count) 1 = .ok (.tableswitch 86 0 5 #[39, 47, 55, 63, 68, 73], 39) := by decide +kernel
theorem d_Ff_count_40 : decode (mB m_Ff_count) 40 = .ok (.aload_n 0, 1) := by decide +kernel
theorem d_Ff_count_41 : decode (mB m_Ff_count) 41 = .ok (.getfield 14, 3) := by decide +kernel
theorem d_Ff_count_44 : decode (mB m_Ff_count) 44 = .ok (.getfield 78, 3) := by decide +kernel
theorem d_Ff_count_47 : decode (mB m_Ff_count) 47 = .ok (.ireturn, 1) := by decide +kernel
theorem d_Ff_count_48 : decode (mB m_Ff_count) 48 = .ok (.aload_n 0, 1) := by decide +kernel
theorem d_Ff_count_49 : decode (mB m_Ff_count) 49 = .ok (.getfield 18, 3) := by decide +kernel
theorem d_Ff_count_52 : decode (mB m_Ff_count) 52 = .ok (.getfield 78, 3) := by decide +kernel
theorem d_Ff_count_55 : decode (mB m_Ff_count) 55 = .ok (.ireturn, 1) := by decide +kernel
theorem d_Ff_count_56 : decode (mB m_Ff_count) 56 = .ok (.aload_n 0, 1) := by decide +kernel
theorem d_Ff_count_57 : decode (mB m_Ff_count) 57 = .ok (.getfield 24, 3) := by decide +kernel
theorem d_Ff_count_60 : decode (mB m_Ff_count) 60 = .ok (.getfield 153, 3) := by decide +kernel
theorem d_Ff_count_63 : decode (mB m_Ff_count) 63 = .ok (.ireturn, 1) := by decide +kernel
theorem d_Ff_count_64 : decode (mB m_Ff_count) 64 = .ok (.aload_n 0, 1) := by decide +kernel
theorem d_Ff_count_65 : decode (mB m_Ff_count) 65 = .ok (.getfield 48, 3) := by decide +kernel
theorem d_Ff_count_68 : decode (mB m_Ff_count) 68 = .ok (.ireturn, 1) := by decide +kernel
theorem d_Ff_count_69 : decode (mB m_Ff_count) 69 = .ok (.aload_n 0, 1) := by decide +kernel
theorem d_Ff_count_70 : decode (mB m_Ff_count) 70 = .ok (.getfield 52, 3) := by decide +kernel
theorem d_Ff_count_73 : decode (mB m_Ff_count) 73 = .ok (.ireturn, 1) := by decide +kernel
theorem d_Ff_count_74 : decode (mB m_Ff_count) 74 = .ok (.aload_n 0, 1) := by decide +kernel
theorem d_Ff_count_75 : decode (mB m_Ff_count) 75 = .ok (.getfield 44, 3) := by decide +kernel
theorem d_Ff_count_78 : decode (mB m_Ff_count) 78 = .ok (.ifCond .eq 7, 3) := by decide +kernel
theorem d_Ff_count_81 : decode (mB m_Ff_count) 81 = .ok (.iconst 1, 1) := by decide +kernel
theorem d_Ff_count_82 : decode (mB m_Ff_count) 82 = .ok (.goto 4, 3) := by decide +kernel
theorem d_Ff_count_85 : decode (mB m_Ff_count) 85 = .ok (.iconst 0, 1) := by decide +kernel
theorem d_Ff_count_86 : decode (mB m_Ff_count) 86 = .ok (.ireturn, 1) := by decide +kernel
theorem d_Ff_count_87 : decode (mB m_Ff_count) 87 = .ok (.new 59, 3) := by decide +kernel
theorem d_Ff_count_90 : decode (mB m_Ff_count) 90 = .ok (.dup, 1) := by decide +kernel
theorem d_Ff_count_91 : decode (mB m_Ff_count) 91 = .ok (.ldc 201, 2) := by decide +kernel
theorem d_Ff_count_93 : decode (mB m_Ff_count) 93 = .ok (.invokespecial 63, 3) := by decide +kernel
theorem d_Ff_count_96 : decode (mB m_Ff_count) 96 = .ok (.athrow, 1) := by decide +kernel
theorem d_Ff_demandCompiled_0 : decode (mB m_Ff_demandCompiled) 0 = .ok (.aload_n 0, 1) := by decide +kernel
theorem d_Ff_demandCompiled_1 : decode (mB m_Ff_demandCompiled) 1 = .ok (.getfield 44, 3) := by decide +kernel
theorem d_Ff_demandCompiled_4 : decode (mB m_Ff_demandCompiled) 4 = .ok (.ifCond .ne 13, 3) := by decide +kernel
theorem d_Ff_demandCompiled_7 : decode (mB m_Ff_demandCompiled) 7 = .ok (.new 93, 3) := by decide +kernel
theorem d_Ff_demandCompiled_10 : decode (mB m_Ff_demandCompiled) 10 = .ok (.dup, 1) := by decide +kernel
theorem d_Ff_demandCompiled_11 : decode (mB m_Ff_demandCompiled) 11 = .ok (.ldc 109, 2) := by decide +kernel
theorem d_Ff_demandCompiled_13 : decode (mB m_Ff_demandCompiled) 13 = .ok (.invokespecial 97, 3) := by decide +kernel
theorem d_Ff_demandCompiled_16 : decode (mB m_Ff_demandCompiled) 16 = .ok (.athrow, 1) := by decide +kernel
theorem d_Ff_demandCompiled_17 : decode (mB m_Ff_demandCompiled) 17 = .ok (.return_, 1) := by decide +kernel
theorem d_Ff_demandFine_0 : decode (mB m_Ff_demandFine) 0 = .ok (.iload_n 2, 1) := by decide +kernel
theorem d_Ff_demandFine_1 : decode (mB m_Ff_demandFine) 1 = .ok (.ifCond .ne 4, 3) := by decide +kernel
theorem d_Ff_demandFine_4 : decode (mB m_Ff_demandFine) 4 = .ok (.return_, 1) := by decide +kernel
theorem d_Ff_demandFine_5 : decode (mB m_Ff_demandFine) 5 = .ok (.aload_n 0, 1) := by decide +kernel
theorem d_Ff_demandFine_6 : decode (mB m_Ff_demandFine) 6 = .ok (.aload_n 1, 1) := by decide +kernel
theorem d_Ff_demandFine_7 : decode (mB m_Ff_demandFine) 7 = .ok (.getfield 203, 3) := by decide +kernel
theorem d_Ff_demandFine_10 : decode (mB m_Ff_demandFine) 10 = .ok (.putfield 48, 3) := by decide +kernel
theorem d_Ff_demandFine_13 : decode (mB m_Ff_demandFine) 13 = .ok (.aload_n 0, 1) := by decide +kernel
theorem d_Ff_demandFine_14 : decode (mB m_Ff_demandFine) 14 = .ok (.aload_n 1, 1) := by decide +kernel
theorem d_Ff_demandFine_15 : decode (mB m_Ff_demandFine) 15 = .ok (.getfield 206, 3) := by decide +kernel
theorem d_Ff_demandFine_18 : decode (mB m_Ff_demandFine) 18 = .ok (.putfield 52, 3) := by decide +kernel
theorem d_Ff_demandFine_21 : decode (mB m_Ff_demandFine) 21 = .ok (.iload_n 2, 1) := by decide +kernel
theorem d_Ff_demandFine_22 : decode (mB m_Ff_demandFine) 22 = .ok (.iconst 1, 1) := by decide +kernel
theorem d_Ff_demandFine_23 : decode (mB m_Ff_demandFine) 23 = .ok (.if_icmp .ne 13, 3) := by decide +kernel
theorem d_Ff_demandFine_26 : decode (mB m_Ff_demandFine) 26 = .ok (.new 107, 3) := by decide +kernel
theorem d_Ff_demandFine_29 : decode (mB m_Ff_demandFine) 29 = .ok (.dup, 1) := by decide +kernel
theorem d_Ff_demandFine_30 : decode (mB m_Ff_demandFine) 30 = .ok (.ldc 207, 2) := by decide +kernel
theorem d_Ff_demandFine_32 : decode (mB m_Ff_demandFine) 32 = .ok (.invokespecial 111, 3) := by decide +kernel
theorem d_Ff_demandFine_35 : decode (mB m_Ff_demandFine) 35 = .ok (.athrow, 1) := by decide +kernel
theorem d_Ff_demandFine_36 : decode (mB m_Ff_demandFine) 36 = .ok (.new 70, 3) := by decide +kernel
theorem d_Ff_demandFine_39 : decode (mB m_Ff_demandFine) 39 = .ok (.dup, 1) := by decide +kernel
theorem d_Ff_demandFine_40 : decode (mB m_Ff_demandFine) 40 = .ok (.ldc 209, 2) := by decide +kernel
theorem d_Ff_demandFine_42 : decode (mB m_Ff_demandFine) 42 = .ok (.invokespecial 74, 3) := by decide +kernel
theorem d_Ff_demandFine_45 : decode (mB m_Ff_demandFine) 45 = .ok (.athrow, 1) := by decide +kernel
theorem d_Ff_demandValue_0 : decode (mB m_Ff_demandValue) 0 = .ok (.iload_n 1, 1) := by decide +kernel
theorem d_Ff_demandValue_1 : decode (mB m_Ff_demandValue) 1 = .ok (.ifCond .lt 14, 3) := by decide +kernel
theorem d_Ff_demandValue_4 : decode (mB m_Ff_demandValue) 4 = .ok (.iload_n 1, 1) := by decide +kernel
theorem d_Ff_demandValue_5 : decode (mB m_Ff_demandValue) 5 = .ok (.aload_n 0, 1) := by decide +kernel
theorem d_Ff_demandValue_6 : decode (mB m_Ff_demandValue) 6 = .ok (.getfield 24, 3) := by decide +kernel
theorem d_Ff_demandValue_9 : decode (mB m_Ff_demandValue) 9 = .ok (.getfield 153, 3) := by decide +kernel
theorem d_Ff_demandValue_12 : decode (mB m_Ff_demandValue) 12 = .ok (.if_icmp .lt 13, 3) := by decide +kernel
theorem d_Ff_demandValue_15 : decode (mB m_Ff_demandValue) 15 = .ok (.new 144, 3) := by decide +kernel
theorem d_Ff_demandValue_18 : decode (mB m_Ff_demandValue) 18 = .ok (.dup, 1) := by decide +kernel
theorem d_Ff_demandValue_19 : decode (mB m_Ff_demandValue) 19 = .ok (.ldc 211, 2) := by decide +kernel
theorem d_Ff_demandValue_21 : decode (mB m_Ff_demandValue) 21 = .ok (.invokespecial 148, 3) := by decide +kernel
theorem d_Ff_demandValue_24 : decode (mB m_Ff_demandValue) 24 = .ok (.athrow, 1) := by decide +kernel
theorem d_Ff_demandValue_25 : decode (mB m_Ff_demandValue) 25 = .ok (.return_, 1) := by decide +kernel
theorem d_Ff_byteOf_0 : decode (mB m_Ff_byteOf) 0 = .ok (.lload_n 0, 1) := by decide +kernel
theorem d_Ff_byteOf_1 : decode (mB m_Ff_byteOf) 1 = .ok (.iload_n 2, 1) := by decide +kernel
theorem d_Ff_byteOf_2 : decode (mB m_Ff_byteOf) 2 = .ok (.lushr, 1) := by decide +kernel
theorem d_Ff_byteOf_3 : decode (mB m_Ff_byteOf) 3 = .ok (.l2i, 1) := by decide +kernel
theorem d_Ff_byteOf_4 : decode (mB m_Ff_byteOf) 4 = .ok (.sipush 255, 3) := by decide +kernel
theorem d_Ff_byteOf_7 : decode (mB m_Ff_byteOf) 7 = .ok (.iand, 1) := by decide +kernel
theorem d_Ff_byteOf_8 : decode (mB m_Ff_byteOf) 8 = .ok (.ireturn, 1) := by decide +kernel
theorem d_Ff_doubleOf_0 : decode (mB m_Ff_doubleOf) 0 = .ok (.lload_n 0, 1) := by decide +kernel
theorem d_Ff_doubleOf_1 : decode (mB m_Ff_doubleOf) 1 = .ok (.bipush 52, 2) := by decide +kernel
theorem d_Ff_doubleOf_3 : decode (mB m_Ff_doubleOf) 3 = .ok (.lushr, 1) := by decide +kernel
theorem d_Ff_doubleOf_4 : decode (mB m_Ff_doubleOf) 4 = .ok (.l2i, 1) := by decide +kernel
theorem d_Ff_doubleOf_5 : decode (mB m_Ff_doubleOf) 5 = .ok (.sipush 2047, 3) := by decide +kernel
theorem d_Ff_doubleOf_8 : decode (mB m_Ff_doubleOf) 8 = .ok (.iand, 1) := by decide +kernel
theorem d_Ff_doubleOf_9 : decode (mB m_Ff_doubleOf) 9 = .ok (.istore_n 2, 1) := by decide +kernel
theorem d_Ff_doubleOf_10 : decode (mB m_Ff_doubleOf) 10 = .ok (.lload_n 0, 1) := by decide +kernel
theorem d_Ff_doubleOf_11 : decode (mB m_Ff_doubleOf) 11 = .ok (.ldc2_w 213, 3) := by decide +kernel
theorem d_Ff_doubleOf_14 : decode (mB m_Ff_doubleOf) 14 = .ok (.land, 1) := by decide +kernel
theorem d_Ff_doubleOf_15 : decode (mB m_Ff_doubleOf) 15 = .ok (.lstore_n 3, 1) := by decide +kernel
theorem d_Ff_doubleOf_16 : decode (mB m_Ff_doubleOf) 16 = .ok (.iload_n 2, 1) := by decide +kernel
theorem d_Ff_doubleOf_17 : decode (mB m_Ff_doubleOf) 17 = .ok (.sipush 2047, 3) := by decide +kernel
theorem d_Ff_doubleOf_20 : decode (mB m_Ff_doubleOf) 20 = .ok (.if_icmp .ne 11, 3) := by decide +kernel
theorem d_Ff_doubleOf_23 : decode (mB m_Ff_doubleOf) 23 = .ok (.lload_n 3, 1) := by decide +kernel
theorem d_Ff_doubleOf_24 : decode (mB m_Ff_doubleOf) 24 = .ok (.lconst 0, 1) := by decide +kernel
theorem d_Ff_doubleOf_25 : decode (mB m_Ff_doubleOf) 25 = .ok (.lcmp, 1) := by decide +kernel
theorem d_Ff_doubleOf_26 : decode (mB m_Ff_doubleOf) 26 = .ok (.ifCond .eq 5, 3) := by decide +kernel
theorem d_Ff_doubleOf_29 : decode (mB m_Ff_doubleOf) 29 = .ok (.dconst 0, 1) := by decide +kernel
theorem d_Ff_doubleOf_30 : decode (mB m_Ff_doubleOf) 30 = .ok (.dreturn, 1) := by decide +kernel
theorem d_Ff_doubleOf_31 : decode (mB m_Ff_doubleOf) 31 = .ok (.iload_n 2, 1) := by decide +kernel
theorem d_Ff_doubleOf_32 : decode (mB m_Ff_doubleOf) 32 = .ok (.ifCond .ne 7, 3) := by decide +kernel
theorem d_Ff_doubleOf_35 : decode (mB m_Ff_doubleOf) 35 = .ok (.lload_n 3, 1) := by decide +kernel
theorem d_Ff_doubleOf_36 : decode (mB m_Ff_doubleOf) 36 = .ok (.goto 8, 3) := by decide +kernel
theorem d_Ff_doubleOf_39 : decode (mB m_Ff_doubleOf) 39 = .ok (.lload_n 3, 1) := by decide +kernel
theorem d_Ff_doubleOf_40 : decode (mB m_Ff_doubleOf) 40 = .ok (.ldc2_w 215, 3) := by decide +kernel
theorem d_Ff_doubleOf_43 : decode (mB m_Ff_doubleOf) 43 = .ok (.ladd, 1) := by decide +kernel
theorem d_Ff_doubleOf_44 : decode (mB m_Ff_doubleOf) 44 = .ok (.l2d, 1) := by decide +kernel
theorem d_Ff_doubleOf_45 : decode (mB m_Ff_doubleOf) 45 = .ok (.dstore 5, 2) := by decide +kernel
theorem d_Ff_doubleOf_47 : decode (mB m_Ff_doubleOf) 47 = .ok (.lload_n 0, 1) := by decide +kernel
theorem d_Ff_doubleOf_48 : decode (mB m_Ff_doubleOf) 48 = .ok (.lconst 0, 1) := by decide +kernel
theorem d_Ff_doubleOf_49 : decode (mB m_Ff_doubleOf) 49 = .ok (.lcmp, 1) := by decide +kernel
theorem d_Ff_doubleOf_50 : decode (mB m_Ff_doubleOf) 50 = .ok (.ifCond .ge 11, 3) := by decide +kernel
theorem d_Ff_doubleOf_53 : decode (mB m_Ff_doubleOf) 53 = .ok (.dload 5, 2) := by decide +kernel
theorem d_Ff_doubleOf_55 : decode (mB m_Ff_doubleOf) 55 = .ok (.ldc2_w 217, 3) := by decide +kernel
theorem d_Ff_doubleOf_58 : decode (mB m_Ff_doubleOf) 58 = .ok (.dmul, 1) := by decide +kernel
theorem d_Ff_doubleOf_59 : decode (mB m_Ff_doubleOf) 59 = .ok (.dstore 5, 2) := by decide +kernel
theorem d_Ff_doubleOf_61 : decode (mB m_Ff_doubleOf) 61 = .ok (.iload_n 2, 1) := by decide +kernel
theorem d_Ff_doubleOf_62 : decode (mB m_Ff_doubleOf) 62 = .ok (.iconst 1, 1) := by decide +kernel
theorem d_Ff_doubleOf_63 : decode (mB m_Ff_doubleOf) 63 = .ok (.invokestatic 219, 3) := by decide +kernel
theorem d_Ff_doubleOf_66 : decode (mB m_Ff_doubleOf) 66 = .ok (.sipush 1075, 3) := by decide +kernel
theorem d_Ff_doubleOf_69 : decode (mB m_Ff_doubleOf) 69 = .ok (.isub, 1) := by decide +kernel
theorem d_Ff_doubleOf_70 : decode (mB m_Ff_doubleOf) 70 = .ok (.istore 7, 2) := by decide +kernel
theorem d_Ff_doubleOf_72 : decode (mB m_Ff_doubleOf) 72 = .ok (.iconst 0, 1) := by decide +kernel
theorem d_Ff_doubleOf_73 : decode (mB m_Ff_doubleOf) 73 = .ok (.istore 8, 2) := by decide +kernel
theorem d_Ff_doubleOf_75 : decode (mB m_Ff_doubleOf) 75 = .ok (.iload 8, 2) := by decide +kernel
theorem d_Ff_doubleOf_77 : decode (mB m_Ff_doubleOf) 77 = .ok (.iload 7, 2) := by decide +kernel
theorem d_Ff_doubleOf_79 : decode (mB m_Ff_doubleOf) 79 = .ok (.if_icmp .ge 17, 3) := by decide +kernel
theorem d_Ff_doubleOf_82 : decode (mB m_Ff_doubleOf) 82 = .ok (.dload 5, 2) := by decide +kernel
theorem d_Ff_doubleOf_84 : decode (mB m_Ff_doubleOf) 84 = .ok (.ldc2_w 225, 3) := by decide +kernel
theorem d_Ff_doubleOf_87 : decode (mB m_Ff_doubleOf) 87 = .ok (.dmul, 1) := by decide +kernel
theorem d_Ff_doubleOf_88 : decode (mB m_Ff_doubleOf) 88 = .ok (.dstore 5, 2) := by decide +kernel
theorem d_Ff_doubleOf_90 : decode (mB m_Ff_doubleOf) 90 = .ok (.iinc 8 1, 3) := by decide +kernel
theorem d_Ff_doubleOf_93 : decode (mB m_Ff_doubleOf) 93 = .ok (.goto (-18), 3) := by decide +kernel
theorem d_Ff_doubleOf_96 : decode (mB m_Ff_doubleOf) 96 = .ok (.iconst 0, 1) := by decide +kernel
theorem d_Ff_doubleOf_97 : decode (mB m_Ff_doubleOf) 97 = .ok (.istore 8, 2) := by decide +kernel
theorem d_Ff_doubleOf_99 : decode (mB m_Ff_doubleOf) 99 = .ok (.iload 8, 2) := by decide +kernel
theorem d_Ff_doubleOf_101 : decode (mB m_Ff_doubleOf) 101 = .ok (.iload 7, 2) := by decide +kernel
theorem d_Ff_doubleOf_103 : decode (mB m_Ff_doubleOf) 103 = .ok (.if_icmp .le 17, 3) := by decide +kernel
theorem d_Ff_doubleOf_106 : decode (mB m_Ff_doubleOf) 106 = .ok (.dload 5, 2) := by decide +kernel
theorem d_Ff_doubleOf_108 : decode (mB m_Ff_doubleOf) 108 = .ok (.ldc2_w 227, 3) := by decide +kernel
theorem d_Ff_doubleOf_111 : decode (mB m_Ff_doubleOf) 111 = .ok (.dmul, 1) := by decide +kernel
theorem d_Ff_doubleOf_112 : decode (mB m_Ff_doubleOf) 112 = .ok (.dstore 5, 2) := by decide +kernel
theorem d_Ff_doubleOf_114 : decode (mB m_Ff_doubleOf) 114 = .ok (.iinc 8 (-1), 3) := by decide +kernel
theorem d_Ff_doubleOf_117 : decode (mB m_Ff_doubleOf) 117 = .ok (.goto (-18), 3) := by decide +kernel
theorem d_Ff_doubleOf_120 : decode (mB m_Ff_doubleOf) 120 = .ok (.dload 5, 2) := by decide +kernel
theorem d_Ff_doubleOf_122 : decode (mB m_Ff_doubleOf) 122 = .ok (.dreturn, 1) := by decide +kernel
