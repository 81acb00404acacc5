theorem d_Mo_restore_0 : decode (mB m_Mo_restore) 0 = .ok (.aload_n 0, 1) := by decide +kernel
theorem d_Mo_restore_1 : decode (mB m_Mo_restore) 1 = .ok (.iconst 1, 1) := by decide +kernel
theorem d_Mo_restore_2 : decode (mB m_Mo_restore) 2 = .ok (.invokevirtual 169, 3) := by decide +kernel
theorem d_Mo_restore_5 : decode (mB m_Mo_restore) 5 = .ok (.istore_n 1, 1) := by decide +kernel
theorem d_Mo_restore_6 : decode (mB m_Mo_restore) 6 = .ok (.aload_n 0, 1) := by decide +kernel
theorem d_Mo_restore_7 : decode (mB m_Mo_restore) 7 = .ok (.invokevirtual 214, 3) := by decide +kernel
theorem d_Mo_restore_10 : decode (mB m_Mo_restore) 10 = .ok (.istore_n 2, 1) := by decide +kernel
theorem d_Mo_restore_11 : decode (mB m_Mo_restore) 11 = .ok (.return_, 1) := by decide +kernel
theorem d_Mo_size_0 : decode (mB m_Mo_size) 0 = .ok (.aload_n 0, 1) := by decide +kernel
theorem d_Mo_size_1 : decode (mB m_Mo_size) 1 = .ok (.iconst 0, 1) := by decide +kernel
theorem d_Mo_size_2 : decode (mB m_Mo_size) 2 = .ok (.putfield 111, 3) := by decide +kernel
theorem d_Mo_size_5 : decode (mB m_Mo_size) 5 = .ok (.aload_n 0, 1) := by decide +kernel
theorem d_Mo_size_6 : decode (mB m_Mo_size) 6 = .ok (.getfield 210, 3) := by decide +kernel
theorem d_Mo_size_9 : decode (mB m_Mo_size) 9 = .ok (.ifCond .ne 9, 3) := by decide +kernel
theorem d_Mo_size_12 : decode (mB m_Mo_size) 12 = .ok (.aload_n 0, 1) := by decide +kernel
theorem d_Mo_size_13 : decode (mB m_Mo_size) 13 = .ok (.iconst 1, 1) := by decide +kernel
theorem d_Mo_size_14 : decode (mB m_Mo_size) 14 = .ok (.invokevirtual 114, 3) := by decide +kernel
theorem d_Mo_size_17 : decode (mB m_Mo_size) 17 = .ok (.ireturn, 1) := by decide +kernel
theorem d_Mo_size_18 : decode (mB m_Mo_size) 18 = .ok (.aload_n 0, 1) := by decide +kernel
theorem d_Mo_size_19 : decode (mB m_Mo_size) 19 = .ok (.invokevirtual 217, 3) := by decide +kernel
theorem d_Mo_size_22 : decode (mB m_Mo_size) 22 = .ok (.iload_n 1, 1) := by decide +kernel
theorem d_Mo_size_23 : decode (mB m_Mo_size) 23 = .ok (.ifCond .eq 12, 3) := by decide +kernel
theorem d_Mo_size_26 : decode (mB m_Mo_size) 26 = .ok (.aload_n 0, 1) := by decide +kernel
theorem d_Mo_size_27 : decode (mB m_Mo_size) 27 = .ok (.getfield 84, 3) := by decide +kernel
theorem d_Mo_size_30 : decode (mB m_Mo_size) 30 = .ok (.iconst 0, 1) := by decide +kernel
theorem d_Mo_size_31 : decode (mB m_Mo_size) 31 = .ok (.laload, 1) := by decide +kernel
theorem d_Mo_size_32 : decode (mB m_Mo_size) 32 = .ok (.goto 9, 3) := by decide +kernel
theorem d_Mo_size_35 : decode (mB m_Mo_size) 35 = .ok (.aload_n 0, 1) := by decide +kernel
theorem d_Mo_size_36 : decode (mB m_Mo_size) 36 = .ok (.getfield 81, 3) := by decide +kernel
theorem d_Mo_size_39 : decode (mB m_Mo_size) 39 = .ok (.iconst 0, 1) := by decide +kernel
theorem d_Mo_size_40 : decode (mB m_Mo_size) 40 = .ok (.laload, 1) := by decide +kernel
theorem d_Mo_size_41 : decode (mB m_Mo_size) 41 = .ok (.l2i, 1) := by decide +kernel
theorem d_Mo_size_42 : decode (mB m_Mo_size) 42 = .ok (.ireturn, 1) := by decide +kernel
theorem d_Mo_put_0 : decode (mB m_Mo_put) 0 = .ok (.aload_n 0, 1) := by decide +kernel
theorem d_Mo_put_1 : decode (mB m_Mo_put) 1 = .ok (.iconst 0, 1) := by decide +kernel
theorem d_Mo_put_2 : decode (mB m_Mo_put) 2 = .ok (.putfield 111, 3) := by decide +kernel
theorem d_Mo_put_5 : decode (mB m_Mo_put) 5 = .ok (.iload_n 3, 1) := by decide +kernel
theorem d_Mo_put_6 : decode (mB m_Mo_put) 6 = .ok (.iconst 1, 1) := by decide +kernel
theorem d_Mo_put_7 : decode (mB m_Mo_put) 7 = .ok (.if_icmp .lt 9, 3) := by decide +kernel
theorem d_Mo_put_10 : decode (mB m_Mo_put) 10 = .ok (.iload_n 3, 1) := by decide +kernel
theorem d_Mo_put_11 : decode (mB m_Mo_put) 11 = .ok (.bipush 8, 2) := by decide +kernel
theorem d_Mo_put_13 : decode (mB m_Mo_put) 13 = .ok (.if_icmp .le 9, 3) := by decide +kernel
theorem d_Mo_put_16 : decode (mB m_Mo_put) 16 = .ok (.aload_n 0, 1) := by decide +kernel
theorem d_Mo_put_17 : decode (mB m_Mo_put) 17 = .ok (.iconst 1, 1) := by decide +kernel
theorem d_Mo_put_18 : decode (mB m_Mo_put) 18 = .ok (.invokevirtual 114, 3) := by decide +kernel
theorem d_Mo_put_21 : decode (mB m_Mo_put) 21 = .ok (.ireturn, 1) := by decide +kernel
theorem d_Mo_put_22 : decode (mB m_Mo_put) 22 = .ok (.aload_n 0, 1) := by decide +kernel
theorem d_Mo_put_23 : decode (mB m_Mo_put) 23 = .ok (.getfield 220, 3) := by decide +kernel
theorem d_Mo_put_26 : decode (mB m_Mo_put) 26 = .ok (.iload_n 3, 1) := by decide +kernel
theorem d_Mo_put_27 : decode (mB m_Mo_put) 27 = .ok (.iadd, 1) := by decide +kernel
theorem d_Mo_put_28 : decode (mB m_Mo_put) 28 = .ok (.bipush 120, 2) := by decide +kernel
theorem d_Mo_put_30 : decode (mB m_Mo_put) 30 = .ok (.if_icmp .le 9, 3) := by decide +kernel
theorem d_Mo_put_33 : decode (mB m_Mo_put) 33 = .ok (.aload_n 0, 1) := by decide +kernel
theorem d_Mo_put_34 : decode (mB m_Mo_put) 34 = .ok (.iconst 2, 1) := by decide +kernel
theorem d_Mo_put_35 : decode (mB m_Mo_put) 35 = .ok (.invokevirtual 114, 3) := by decide +kernel
theorem d_Mo_put_38 : decode (mB m_Mo_put) 38 = .ok (.ireturn, 1) := by decide +kernel
theorem d_Mo_put_39 : decode (mB m_Mo_put) 39 = .ok (.iload_n 3, 1) := by decide +kernel
theorem d_Mo_put_40 : decode (mB m_Mo_put) 40 = .ok (.iconst 1, 1) := by decide +kernel
theorem d_Mo_put_41 : decode (mB m_Mo_put) 41 = .ok (.isub, 1) := by decide +kernel
theorem d_Mo_put_42 : decode (mB m_Mo_put) 42 = .ok (.istore 4, 2) := by decide +kernel
theorem d_Mo_put_44 : decode (mB m_Mo_put) 44 = .ok (.iload 4, 2) := by decide +kernel
theorem d_Mo_put_46 : decode (mB m_Mo_put) 46 = .ok (.ifCond .lt 40, 3) := by decide +kernel
theorem d_Mo_put_49 : decode (mB m_Mo_put) 49 = .ok (.aload_n 0, 1) := by decide +kernel
theorem d_Mo_put_50 : decode (mB m_Mo_put) 50 = .ok (.getfield 16, 3) := by decide +kernel
theorem d_Mo_put_53 : decode (mB m_Mo_put) 53 = .ok (.aload_n 0, 1) := by decide +kernel
theorem d_Mo_put_54 : decode (mB m_Mo_put) 54 = .ok (.getfield 220, 3) := by decide +kernel
theorem d_Mo_put_57 : decode (mB m_Mo_put) 57 = .ok (.lload_n 1, 1) := by decide +kernel
theorem d_Mo_put_58 : decode (mB m_Mo_put) 58 = .ok (.bipush 8, 2) := by decide +kernel
theorem d_Mo_put_60 : decode (mB m_Mo_put) 60 = .ok (.iload 4, 2) := by decide +kernel
theorem d_Mo_put_62 : decode (mB m_Mo_put) 62 = .ok (.imul, 1) := by decide +kernel
theorem d_Mo_put_63 : decode (mB m_Mo_put) 63 = .ok (.lshr, 1) := by decide +kernel
theorem d_Mo_put_64 : decode (mB m_Mo_put) 64 = .ok (.l2i, 1) := by decide +kernel
theorem d_Mo_put_65 : decode (mB m_Mo_put) 65 = .ok (.sipush 255, 3) := by decide +kernel
theorem d_Mo_put_68 : decode (mB m_Mo_put) 68 = .ok (.iand, 1) := by decide +kernel
theorem d_Mo_put_69 : decode (mB m_Mo_put) 69 = .ok (.iastore, 1) := by decide +kernel
theorem d_Mo_put_70 : decode (mB m_Mo_put) 70 = .ok (.aload_n 0, 1) := by decide +kernel
theorem d_Mo_put_71 : decode (mB m_Mo_put) 71 = .ok (.dup, 1) := by decide +kernel
theorem d_Mo_put_72 : decode (mB m_Mo_put) 72 = .ok (.getfield 220, 3) := by decide +kernel
theorem d_Mo_put_75 : decode (mB m_Mo_put) 75 = .ok (.iconst 1, 1) := by decide +kernel
theorem d_Mo_put_76 : decode (mB m_Mo_put) 76 = .ok (.iadd, 1) := by decide +kernel
theorem d_Mo_put_77 : decode (mB m_Mo_put) 77 = .ok (.putfield 220, 3) := by decide +kernel
theorem d_Mo_put_80 : decode (mB m_Mo_put) 80 = .ok (.iinc 4 (-1), 3) := by decide +kernel
theorem d_Mo_put_83 : decode (mB m_Mo_put) 83 = .ok (.goto (-39), 3) := by decide +kernel
theorem d_Mo_put_86 : decode (mB m_Mo_put) 86 = .ok (.aload_n 0, 1) := by decide +kernel
theorem d_Mo_put_87 : decode (mB m_Mo_put) 87 = .ok (.getfield 220, 3) := by decide +kernel
theorem d_Mo_put_90 : decode (mB m_Mo_put) 90 = .ok (.ireturn, 1) := by decide +kernel
theorem d_Mo_cut_0 : decode (mB m_Mo_cut) 0 = .ok (.aload_n 0, 1) := by decide +kernel
theorem d_Mo_cut_1 : decode (mB m_Mo_cut) 1 = .ok (.iconst 0, 1) := by decide +kernel
theorem d_Mo_cut_2 : decode (mB m_Mo_cut) 2 = .ok (.putfield 111, 3) := by decide +kernel
theorem d_Mo_cut_5 : decode (mB m_Mo_cut) 5 = .ok (.iload_n 1, 1) := by decide +kernel
theorem d_Mo_cut_6 : decode (mB m_Mo_cut) 6 = .ok (.ifCond .lt 11, 3) := by decide +kernel
theorem d_Mo_cut_9 : decode (mB m_Mo_cut) 9 = .ok (.iload_n 1, 1) := by decide +kernel
theorem d_Mo_cut_10 : decode (mB m_Mo_cut) 10 = .ok (.aload_n 0, 1) := by decide +kernel
theorem d_Mo_cut_11 : decode (mB m_Mo_cut) 11 = .ok (.getfield 220, 3) := by decide +kernel
theorem d_Mo_cut_14 : decode (mB m_Mo_cut) 14 = .ok (.if_icmp .le 9, 3) := by decide +kernel
theorem d_Mo_cut_17 : decode (mB m_Mo_cut) 17 = .ok (.aload_n 0, 1) := by decide +kernel
theorem d_Mo_cut_18 : decode (mB m_Mo_cut) 18 = .ok (.iconst 1, 1) := by decide +kernel
theorem d_Mo_cut_19 : decode (mB m_Mo_cut) 19 = .ok (.invokevirtual 114, 3) := by decide +kernel
theorem d_Mo_cut_22 : decode (mB m_Mo_cut) 22 = .ok (.ireturn, 1) := by decide +kernel
theorem d_Mo_cut_23 : decode (mB m_Mo_cut) 23 = .ok (.aload_n 0, 1) := by decide +kernel
theorem d_Mo_cut_24 : decode (mB m_Mo_cut) 24 = .ok (.iload_n 1, 1) := by decide +kernel
theorem d_Mo_cut_25 : decode (mB m_Mo_cut) 25 = .ok (.putfield 220, 3) := by decide +kernel
theorem d_Mo_cut_28 : decode (mB m_Mo_cut) 28 = .ok (.aload_n 0, 1) := by decide +kernel
theorem d_Mo_cut_29 : decode (mB m_Mo_cut) 29 = .ok (.getfield 220, 3) := by decide +kernel
theorem d_Mo_cut_32 : decode (mB m_Mo_cut) 32 = .ok (.ireturn, 1) := by decide +kernel
theorem d_Mo_wrong_0 : decode (mB m_Mo_wrong) 0 = .ok (.iload_n 1, 1) := by decide +kernel
theorem d_Mo_wrong_1 : decode (mB m_Mo_wrong) 1 = .ok (.ifCond .eq 15, 3) := by decide +kernel
theorem d_Mo_wrong_4 : decode (mB m_Mo_wrong) 4 = .ok (.aload_n 0, 1) := by decide +kernel
theorem d_Mo_wrong_5 : decode (mB m_Mo_wrong) 5 = .ok (.getfield 223, 3) := by decide +kernel
theorem d_Mo_wrong_8 : decode (mB m_Mo_wrong) 8 = .ok (.ifCond .ne 8, 3) := by decide +kernel
theorem d_Mo_wrong_11 : decode (mB m_Mo_wrong) 11 = .ok (.aload_n 0, 1) := by decide +kernel
theorem d_Mo_wrong_12 : decode (mB m_Mo_wrong) 12 = .ok (.iconst 3, 1) := by decide +kernel
theorem d_Mo_wrong_13 : decode (mB m_Mo_wrong) 13 = .ok (.putfield 223, 3) := by decide +kernel
theorem d_Mo_wrong_16 : decode (mB m_Mo_wrong) 16 = .ok (.return_, 1) := by decide +kernel
theorem d_Mo_nextByte_0 : decode (mB m_Mo_nextByte) 0 = .ok (.aload_n 0, 1) := by decide +kernel
theorem d_Mo_nextByte_1 : decode (mB m_Mo_nextByte) 1 = .ok (.getfield 226, 3) := by decide +kernel
theorem d_Mo_nextByte_4 : decode (mB m_Mo_nextByte) 4 = .ok (.aload_n 0, 1) := by decide +kernel
theorem d_Mo_nextByte_5 : decode (mB m_Mo_nextByte) 5 = .ok (.getfield 220, 3) := by decide +kernel
theorem d_Mo_nextByte_8 : decode (mB m_Mo_nextByte) 8 = .ok (.if_icmp .lt 15, 3) := by decide +kernel
theorem d_Mo_nextByte_11 : decode (mB m_Mo_nextByte) 11 = .ok (.aload_n 0, 1) := by decide +kernel
theorem d_Mo_nextByte_12 : decode (mB m_Mo_nextByte) 12 = .ok (.getfield 223, 3) := by decide +kernel
theorem d_Mo_nextByte_15 : decode (mB m_Mo_nextByte) 15 = .ok (.ifCond .ne 8, 3) := by decide +kernel
theorem d_Mo_nextByte_18 : decode (mB m_Mo_nextByte) 18 = .ok (.aload_n 0, 1) := by decide +kernel
theorem d_Mo_nextByte_19 : decode (mB m_Mo_nextByte) 19 = .ok (.iconst 2, 1) := by decide +kernel
theorem d_Mo_nextByte_20 : decode (mB m_Mo_nextByte) 20 = .ok (.putfield 223, 3) := by decide +kernel
theorem d_Mo_nextByte_23 : decode (mB m_Mo_nextByte) 23 = .ok (.aload_n 0, 1) := by decide +kernel
theorem d_Mo_nextByte_24 : decode (mB m_Mo_nextByte) 24 = .ok (.getfield 223, 3) := by decide +kernel
theorem d_Mo_nextByte_27 : decode (mB m_Mo_nextByte) 27 = .ok (.ifCond .le 5, 3) := by decide +kernel
theorem d_Mo_nextByte_30 : decode (mB m_Mo_nextByte) 30 = .ok (.iconst 0, 1) := by decide +kernel
theorem d_Mo_nextByte_31 : decode (mB m_Mo_nextByte) 31 = .ok (.ireturn, 1) := by decide +kernel
theorem d_Mo_nextByte_32 : decode (mB m_Mo_nextByte) 32 = .ok (.aload_n 0, 1) := by decide +kernel
theorem d_Mo_nextByte_33 : decode (mB m_Mo_nextByte) 33 = .ok (.dup, 1) := by decide +kernel
theorem d_Mo_nextByte_34 : decode (mB m_Mo_nextByte) 34 = .ok (.getfield 226, 3) := by decide +kernel
theorem d_Mo_nextByte_37 : decode (mB m_Mo_nextByte) 37 = .ok (.iconst 1, 1) := by decide +kernel
theorem d_Mo_nextByte_38 : decode (mB m_Mo_nextByte) 38 = .ok (.iadd, 1) := by decide +kernel
theorem d_Mo_nextByte_39 : decode (mB m_Mo_nextByte) 39 = .ok (.putfield 226, 3) := by decide +kernel
theorem d_Mo_nextByte_42 : decode (mB m_Mo_nextByte) 42 = .ok (.aload_n 0, 1) := by decide +kernel
theorem d_Mo_nextByte_43 : decode (mB m_Mo_nextByte) 43 = .ok (.getfield 16, 3) := by decide +kernel
theorem d_Mo_nextByte_46 : decode (mB m_Mo_nextByte) 46 = .ok (.aload_n 0, 1) := by decide +kernel
theorem d_Mo_nextByte_47 : decode (mB m_Mo_nextByte) 47 = .ok (.getfield 226, 3) := by decide +kernel
theorem d_Mo_nextByte_50 : decode (mB m_Mo_nextByte) 50 = .ok (.iconst 1, 1) := by decide +kernel
theorem d_Mo_nextByte_51 : decode (mB m_Mo_nextByte) 51 = .ok (.isub, 1) := by decide +kernel
theorem d_Mo_nextByte_52 : decode (mB m_Mo_nextByte) 52 = .ok (.iaload, 1) := by decide +kernel
theorem d_Mo_nextByte_53 : decode (mB m_Mo_nextByte) 53 = .ok (.ireturn, 1) := by decide +kernel
theorem d_Mo_putByte_0 : decode (mB m_Mo_putByte) 0 = .ok (.aload_n 0, 1) := by decide +kernel
theorem d_Mo_putByte_1 : decode (mB m_Mo_putByte) 1 = .ok (.aload_n 0, 1) := by decide +kernel
theorem d_Mo_putByte_2 : decode (mB m_Mo_putByte) 2 = .ok (.getfield 226, 3) := by decide +kernel
theorem d_Mo_putByte_5 : decode (mB m_Mo_putByte) 5 = .ok (.bipush 120, 2) := by decide +kernel
theorem d_Mo_putByte_7 : decode (mB m_Mo_putByte) 7 = .ok (.if_icmp .ne 7, 3) := by decide +kernel
theorem d_Mo_putByte_10 : decode (mB m_Mo_putByte) 10 = .ok (.iconst 1, 1) := by decide +kernel
theorem d_Mo_putByte_11 : decode (mB m_Mo_putByte) 11 = .ok (.goto 4, 3) := by decide +kernel
theorem d_Mo_putByte_14 : decode (mB m_Mo_putByte) 14 = .ok (.iconst 0, 1) := by decide +kernel
theorem d_Mo_putByte_15 : decode (mB m_Mo_putByte) 15 = .ok (.invokevirtual 229, 3) := by decide +kernel
theorem d_Mo_putByte_18 : decode (mB m_Mo_putByte) 18 = .ok (.aload_n 0, 1) := by decide +kernel
theorem d_Mo_putByte_19 : decode (mB m_Mo_putByte) 19 = .ok (.getfield 223, 3) := by decide +kernel
theorem d_Mo_putByte_22 : decode (mB m_Mo_putByte) 22 = .ok (.ifCond .le 4, 3) := by decide +kernel
theorem d_Mo_putByte_25 : decode (mB m_Mo_putByte) 25 = .ok (.return_, 1) := by decide +kernel
theorem d_Mo_putByte_26 : decode (mB m_Mo_putByte) 26 = .ok (.aload_n 0, 1) := by decide +kernel
theorem d_Mo_putByte_27 : decode (mB m_Mo_putByte) 27 = .ok (.getfield 105, 3) := by decide +kernel
theorem d_Mo_putByte_30 : decode (mB m_Mo_putByte) 30 = .ok (.aload_n 0, 1) := by decide +kernel
theorem d_Mo_putByte_31 : decode (mB m_Mo_putByte) 31 = .ok (.getfield 226, 3) := by decide +kernel
theorem d_Mo_putByte_34 : decode (mB m_Mo_putByte) 34 = .ok (.iload_n 1, 1) := by decide +kernel
theorem d_Mo_putByte_35 : decode (mB m_Mo_putByte) 35 = .ok (.sipush 255, 3) := by decide +kernel
theorem d_Mo_putByte_38 : decode (mB m_Mo_putByte) 38 = .ok (.iand, 1) := by decide +kernel
theorem d_Mo_putByte_39 : decode (mB m_Mo_putByte) 39 = .ok (.iastore, 1) := by decide +kernel
theorem d_Mo_putByte_40 : decode (mB m_Mo_putByte) 40 = .ok (.aload_n 0, 1) := by decide +kernel
theorem d_Mo_putByte_41 : decode (mB m_Mo_putByte) 41 = .ok (.dup, 1) := by decide +kernel
theorem d_Mo_putByte_42 : decode (mB m_Mo_putByte) 42 = .ok (.getfield 226, 3) := by decide +kernel
theorem d_Mo_putByte_45 : decode (mB m_Mo_putByte) 45 = .ok (.iconst 1, 1) := by decide +kernel
theorem d_Mo_putByte_46 : decode (mB m_Mo_putByte) 46 = .ok (.iadd, 1) := by decide +kernel
theorem d_Mo_putByte_47 : decode (mB m_Mo_putByte) 47 = .ok (.putfield 226, 3) := by decide +kernel
theorem d_Mo_putByte_50 : decode (mB m_Mo_putByte) 50 = .ok (.return_, 1) := by decide +kernel
theorem d_Mo_take_0 : decode (mB m_Mo_take) 0 = .ok (.aload_n 0, 1) := by decide +kernel
theorem d_Mo_take_1 : decode (mB m_Mo_take) 1 = .ok (.getfield 233, 3) := by decide +kernel
theorem d_Mo_take_4 : decode (mB m_Mo_take) 4 = .ok (.aload_n 0, 1) := by decide +kernel
theorem d_Mo_take_5 : decode (mB m_Mo_take) 5 = .ok (.getfield 236, 3) := by decide +kernel
theorem d_Mo_take_8 : decode (mB m_Mo_take) 8 = .ok (.if_icmp .ne 15, 3) := by decide +kernel
theorem d_Mo_take_11 : decode (mB m_Mo_take) 11 = .ok (.aload_n 0, 1) := by decide +kernel
theorem d_Mo_take_12 : decode (mB m_Mo_take) 12 = .ok (.getfield 223, 3) := by decide +kernel
theorem d_Mo_take_15 : decode (mB m_Mo_take) 15 = .ok (.ifCond .ne 8, 3) := by decide +kernel
theorem d_Mo_take_18 : decode (mB m_Mo_take) 18 = .ok (.aload_n 0, 1) := by decide +kernel
theorem d_Mo_take_19 : decode (mB m_Mo_take) 19 = .ok (.iconst 2, 1) := by decide +kernel
theorem d_Mo_take_20 : decode (mB m_Mo_take) 20 = .ok (.putfield 223, 3) := by decide +kernel
theorem d_Mo_take_23 : decode (mB m_Mo_take) 23 = .ok (.aload_n 0, 1) := by decide +kernel
theorem d_Mo_take_24 : decode (mB m_Mo_take) 24 = .ok (.getfield 223, 3) := by decide +kernel
theorem d_Mo_take_27 : decode (mB m_Mo_take) 27 = .ok (.ifCond .le 5, 3) := by decide +kernel
theorem d_Mo_take_30 : decode (mB m_Mo_take) 30 = .ok (.lconst 0, 1) := by decide +kernel
theorem d_Mo_take_31 : decode (mB m_Mo_take) 31 = .ok (.lreturn, 1) := by decide +kernel
theorem d_Mo_take_32 : decode (mB m_Mo_take) 32 = .ok (.aload_n 0, 1) := by decide +kernel
theorem d_Mo_take_33 : decode (mB m_Mo_take) 33 = .ok (.dup, 1) := by decide +kernel
theorem d_Mo_take_34 : decode (mB m_Mo_take) 34 = .ok (.getfield 233, 3) := by decide +kernel
theorem d_Mo_take_37 : decode (mB m_Mo_take) 37 = .ok (.iconst 1, 1) := by decide +kernel
theorem d_Mo_take_38 : decode (mB m_Mo_take) 38 = .ok (.iadd, 1) := by decide +kernel
theorem d_Mo_take_39 : decode (mB m_Mo_take) 39 = .ok (.putfield 233, 3) := by decide +kernel
theorem d_Mo_take_42 : decode (mB m_Mo_take) 42 = .ok (.aload_n 0, 1) := by decide +kernel
theorem d_Mo_take_43 : decode (mB m_Mo_take) 43 = .ok (.getfield 19, 3) := by decide +kernel
theorem d_Mo_take_46 : decode (mB m_Mo_take) 46 = .ok (.aload_n 0, 1) := by decide +kernel
theorem d_Mo_take_47 : decode (mB m_Mo_take) 47 = .ok (.getfield 233, 3) := by decide +kernel
theorem d_Mo_take_50 : decode (mB m_Mo_take) 50 = .ok (.iconst 1, 1) := by decide +kernel
theorem d_Mo_take_51 : decode (mB m_Mo_take) 51 = .ok (.isub, 1) := by decide +kernel
theorem d_Mo_take_52 : decode (mB m_Mo_take) 52 = .ok (.laload, 1) := by decide +kernel
theorem d_Mo_take_53 : decode (mB m_Mo_take) 53 = .ok (.lreturn, 1) := by decide +kernel
theorem d_Mo_give_0 : decode (mB m_Mo_give) 0 = .ok (.aload_n 0, 1) := by decide +kernel
theorem d_Mo_give_1 : decode (mB m_Mo_give) 1 = .ok (.aload_n 0, 1) := by decide +kernel
theorem d_Mo_give_2 : decode (mB m_Mo_give) 2 = .ok (.getfield 233, 3) := by decide +kernel
theorem d_Mo_give_5 : decode (mB m_Mo_give) 5 = .ok (.sipush 160, 3) := by decide +kernel
theorem d_Mo_give_8 : decode (mB m_Mo_give) 8 = .ok (.if_icmp .ne 7, 3) := by decide +kernel
theorem d_Mo_give_11 : decode (mB m_Mo_give) 11 = .ok (.iconst 1, 1) := by decide +kernel
theorem d_Mo_give_12 : decode (mB m_Mo_give) 12 = .ok (.goto 4, 3) := by decide +kernel
theorem d_Mo_give_15 : decode (mB m_Mo_give) 15 = .ok (.iconst 0, 1) := by decide +kernel
theorem d_Mo_give_16 : decode (mB m_Mo_give) 16 = .ok (.invokevirtual 229, 3) := by decide +kernel
theorem d_Mo_give_19 : decode (mB m_Mo_give) 19 = .ok (.aload_n 0, 1) := by decide +kernel
theorem d_Mo_give_20 : decode (mB m_Mo_give) 20 = .ok (.getfield 223, 3) := by decide +kernel
theorem d_Mo_give_23 : decode (mB m_Mo_give) 23 = .ok (.ifCond .le 4, 3) := by decide +kernel
theorem d_Mo_give_26 : decode (mB m_Mo_give) 26 = .ok (.return_, 1) := by decide +kernel
theorem d_Mo_give_27 : decode (mB m_Mo_give) 27 = .ok (.aload_n 0, 1) := by decide +kernel
theorem d_Mo_give_28 : decode (mB m_Mo_give) 28 = .ok (.getfield 108, 3) := by decide +kernel
theorem d_Mo_give_31 : decode (mB m_Mo_give) 31 = .ok (.aload_n 0, 1) := by decide +kernel
theorem d_Mo_give_32 : decode (mB m_Mo_give) 32 = .ok (.getfield 233, 3) := by decide +kernel
theorem d_Mo_give_35 : decode (mB m_Mo_give) 35 = .ok (.lload_n 1, 1) := by decide +kernel
theorem d_Mo_give_36 : decode (mB m_Mo_give) 36 = .ok (.lastore, 1) := by decide +kernel
theorem d_Mo_give_37 : decode (mB m_Mo_give) 37 = .ok (.aload_n 0, 1) := by decide +kernel
theorem d_Mo_give_38 : decode (mB m_Mo_give) 38 = .ok (.dup, 1) := by decide +kernel
theorem d_Mo_give_39 : decode (mB m_Mo_give) 39 = .ok (.getfield 233, 3) := by decide +kernel
theorem d_Mo_give_42 : decode (mB m_Mo_give) 42 = .ok (.iconst 1, 1) := by decide +kernel
theorem d_Mo_give_43 : decode (mB m_Mo_give) 43 = .ok (.iadd, 1) := by decide +kernel
theorem d_Mo_give_44 : decode (mB m_Mo_give) 44 = .ok (.putfield 233, 3) := by decide +kernel
theorem d_Mo_give_47 : decode (mB m_Mo_give) 47 = .ok (.return_, 1) := by decide +kernel
theorem d_Mo_rest_0 : decode (mB m_Mo_rest) 0 = .ok (.aload_n 0, 1) := by decide +kernel
theorem d_Mo_rest_1 : decode (mB m_Mo_rest) 1 = .ok (.getfield 239, 3) := by decide +kernel
theorem d_Mo_rest_4 : decode (mB m_Mo_rest) 4 = .ok (.bipush 8, 2) := by decide +kernel
theorem d_Mo_rest_6 : decode (mB m_Mo_rest) 6 = .ok (.if_icmp .ge 45, 3) := by decide +kernel
theorem d_Mo_rest_9 : decode (mB m_Mo_rest) 9 = .ok (.aload_n 0, 1) := by decide +kernel
theorem d_Mo_rest_10 : decode (mB m_Mo_rest) 10 = .ok (.getfield 242, 3) := by decide +kernel
theorem d_Mo_rest_13 : decode (mB m_Mo_rest) 13 = .ok (.ifCond .ne 38, 3) := by decide +kernel
theorem d_Mo_rest_16 : decode (mB m_Mo_rest) 16 = .ok (.aload_n 0, 1) := by decide +kernel
theorem d_Mo_rest_17 : decode (mB m_Mo_rest) 17 = .ok (.aload_n 0, 1) := by decide +kernel
theorem d_Mo_rest_18 : decode (mB m_Mo_rest) 18 = .ok (.getfield 16, 3) := by decide +kernel
theorem d_Mo_rest_21 : decode (mB m_Mo_rest) 21 = .ok (.aload_n 0, 1) := by decide +kernel
theorem d_Mo_rest_22 : decode (mB m_Mo_rest) 22 = .ok (.getfield 226, 3) := by decide +kernel
theorem d_Mo_rest_25 : decode (mB m_Mo_rest) 25 = .ok (.iconst 1, 1) := by decide +kernel
theorem d_Mo_rest_26 : decode (mB m_Mo_rest) 26 = .ok (.isub, 1) := by decide +kernel
theorem d_Mo_rest_27 : decode (mB m_Mo_rest) 27 = .ok (.iaload, 1) := by decide +kernel
theorem d_Mo_rest_28 : decode (mB m_Mo_rest) 28 = .ok (.iconst 1, 1) := by decide +kernel
theorem d_Mo_rest_29 : decode (mB m_Mo_rest) 29 = .ok (.bipush 8, 2) := by decide +kernel
theorem d_Mo_rest_31 : decode (mB m_Mo_rest) 31 = .ok (.aload_n 0, 1) := by decide +kernel
theorem d_Mo_rest_32 : decode (mB m_Mo_rest) 32 = .ok (.getfield 239, 3) := by decide +kernel
theorem d_Mo_rest_35 : decode (mB m_Mo_rest) 35 = .ok (.isub, 1) := by decide +kernel
theorem d_Mo_rest_36 : decode (mB m_Mo_rest) 36 = .ok (.ishl, 1) := by decide +kernel
theorem d_Mo_rest_37 : decode (mB m_Mo_rest) 37 = .ok (.iconst 1, 1) := by decide +kernel
theorem d_Mo_rest_38 : decode (mB m_Mo_rest) 38 = .ok (.isub, 1) := by decide +kernel
theorem d_Mo_rest_39 : decode (mB m_Mo_rest) 39 = .ok (.iand, 1) := by decide +kernel
theorem d_Mo_rest_40 : decode (mB m_Mo_rest) 40 = .ok (.ifCond .eq 7, 3) := by decide +kernel
theorem d_Mo_rest_43 : decode (mB m_Mo_rest) 43 = .ok (.iconst 1, 1) := by decide +kernel
theorem d_Mo_rest_44 : decode (mB m_Mo_rest) 44 = .ok (.goto 4, 3) := by decide +kernel
theorem d_Mo_rest_47 : decode (mB m_Mo_rest) 47 = .ok (.iconst 0, 1) := by decide +kernel
theorem d_Mo_rest_48 : decode (mB m_Mo_rest) 48 = .ok (.invokevirtual 229, 3) := by decide +kernel
theorem d_Mo_rest_51 : decode (mB m_Mo_rest) 51 = .ok (.aload_n 0, 1) := by decide +kernel
theorem d_Mo_rest_52 : decode (mB m_Mo_rest) 52 = .ok (.getfield 223, 3) := by decide +kernel
theorem d_Mo_rest_55 : decode (mB m_Mo_rest) 55 = .ok (.ifCond .ne 9, 3) := by decide +kernel
theorem d_Mo_rest_58 : decode (mB m_Mo_rest) 58 = .ok (.aload_n 0, 1) := by decide +kernel
theorem d_Mo_rest_59 : decode (mB m_Mo_rest) 59 = .ok (.bipush 8, 2) := by decide +kernel
theorem d_Mo_rest_61 : decode (mB m_Mo_rest) 61 = .ok (.putfield 239, 3) := by decide +kernel
theorem d_Mo_rest_64 : decode (mB m_Mo_rest) 64 = .ok (.return_, 1) := by decide +kernel
theorem d_Mo_nameAround_0 : decode (mB m_Mo_nameAround) 0 = .ok (.iload_n 1, 1) := by decide +kernel
theorem d_Mo_nameAround_1 : decode (mB m_Mo_nameAround) 1 = .ok (.istore_n 2, 1) := by decide +kernel
theorem d_Mo_nameAround_2 : decode (mB m_Mo_nameAround) 2 = .ok (.iload_n 2, 1) := by decide +kernel
theorem d_Mo_nameAround_3 : decode (mB m_Mo_nameAround) 3 = .ok (.ifCond .lt 22, 3) := by decide +kernel
theorem d_Mo_nameAround_6 : decode (mB m_Mo_nameAround) 6 = .ok (.aload_n 0, 1) := by decide +kernel
theorem d_Mo_nameAround_7 : decode (mB m_Mo_nameAround) 7 = .ok (.getfield 45, 3) := by decide +kernel
theorem d_Mo_nameAround_10 : decode (mB m_Mo_nameAround) 10 = .ok (.iload_n 2, 1) := by decide +kernel
theorem d_Mo_nameAround_11 : decode (mB m_Mo_nameAround) 11 = .ok (.iaload, 1) := by decide +kernel
theorem d_Mo_nameAround_12 : decode (mB m_Mo_nameAround) 12 = .ok (.ifCond .ge 13, 3) := by decide +kernel
theorem d_Mo_nameAround_15 : decode (mB m_Mo_nameAround) 15 = .ok (.aload_n 0, 1) := by decide +kernel
theorem d_Mo_nameAround_16 : decode (mB m_Mo_nameAround) 16 = .ok (.getfield 51, 3) := by decide +kernel
theorem d_Mo_nameAround_19 : decode (mB m_Mo_nameAround) 19 = .ok (.iload_n 2, 1) := by decide +kernel
theorem d_Mo_nameAround_20 : decode (mB m_Mo_nameAround) 20 = .ok (.iaload, 1) := by decide +kernel
theorem d_Mo_nameAround_21 : decode (mB m_Mo_nameAround) 21 = .ok (.istore_n 2, 1) := by decide +kernel
theorem d_Mo_nameAround_22 : decode (mB m_Mo_nameAround) 22 = .ok (.goto (-20), 3) := by decide +kernel
theorem d_Mo_nameAround_25 : decode (mB m_Mo_nameAround) 25 = .ok (.iload_n 2, 1) := by decide +kernel
theorem d_Mo_nameAround_26 : decode (mB m_Mo_nameAround) 26 = .ok (.ifCond .ge 7, 3) := by decide +kernel
theorem d_Mo_nameAround_29 : decode (mB m_Mo_nameAround) 29 = .ok (.iconst (-1), 1) := by decide +kernel
theorem d_Mo_nameAround_30 : decode (mB m_Mo_nameAround) 30 = .ok (.goto 9, 3) := by decide +kernel
theorem d_Mo_nameAround_33 : decode (mB m_Mo_nameAround) 33 = .ok (.aload_n 0, 1) := by decide +kernel
theorem d_Mo_nameAround_34 : decode (mB m_Mo_nameAround) 34 = .ok (.getfield 45, 3) := by decide +kernel
theorem d_Mo_nameAround_37 : decode (mB m_Mo_nameAround) 37 = .ok (.iload_n 2, 1) := by decide +kernel
theorem d_Mo_nameAround_38 : decode (mB m_Mo_nameAround) 38 = .ok (.iaload, 1) := by decide +kernel
theorem d_Mo_nameAround_39 : decode (mB m_Mo_nameAround) 39 = .ok (.ireturn, 1) := by decide +kernel
theorem d_Mo_readBits_0 : decode (mB m_Mo_readBits) 0 = .ok (.lconst 0, 1) := by decide +kernel
theorem d_Mo_readBits_1 : decode (mB m_Mo_readBits) 1 = .ok (.lstore_n 2, 1) := by decide +kernel
theorem d_Mo_readBits_2 : decode (mB m_Mo_readBits) 2 = .ok (.iconst 0, 1) := by decide +kernel
theorem d_Mo_readBits_3 : decode (mB m_Mo_readBits) 3 = .ok (.istore 4, 2) := by decide +kernel
theorem d_Mo_readBits_5 : decode (mB m_Mo_readBits) 5 = .ok (.iload 4, 2) := by decide +kernel
theorem d_Mo_readBits_7 : decode (mB m_Mo_readBits) 7 = .ok (.iload_n 1, 1) := by decide +kernel
theorem d_Mo_readBits_8 : decode (mB m_Mo_readBits) 8 = .ok (.if_icmp .ge 89, 3) := by decide +kernel
theorem d_Mo_readBits_11 : decode (mB m_Mo_readBits) 11 = .ok (.aload_n 0, 1) := by decide +kernel
theorem d_Mo_readBits_12 : decode (mB m_Mo_readBits) 12 = .ok (.getfield 223, 3) := by decide +kernel
theorem d_Mo_readBits_15 : decode (mB m_Mo_readBits) 15 = .ok (.ifCond .ne 82, 3) := by decide +kernel
theorem d_Mo_readBits_18 : decode (mB m_Mo_readBits) 18 = .ok (.aload_n 0, 1) := by decide +kernel
theorem d_Mo_readBits_19 : decode (mB m_Mo_readBits) 19 = .ok (.getfield 239, 3) := by decide +kernel
theorem d_Mo_readBits_22 : decode (mB m_Mo_readBits) 22 = .ok (.bipush 8, 2) := by decide +kernel
theorem d_Mo_readBits_24 : decode (mB m_Mo_readBits) 24 = .ok (.if_icmp .ne 21, 3) := by decide +kernel
theorem d_Mo_readBits_27 : decode (mB m_Mo_readBits) 27 = .ok (.aload_n 0, 1) := by decide +kernel
theorem d_Mo_readBits_28 : decode (mB m_Mo_readBits) 28 = .ok (.invokevirtual 245, 3) := by decide +kernel
theorem d_Mo_readBits_31 : decode (mB m_Mo_readBits) 31 = .ok (.istore 5, 2) := by decide +kernel
theorem d_Mo_readBits_33 : decode (mB m_Mo_readBits) 33 = .ok (.aload_n 0, 1) := by decide +kernel
theorem d_Mo_readBits_34 : decode (mB m_Mo_readBits) 34 = .ok (.getfield 223, 3) := by decide +kernel
theorem d_Mo_readBits_37 : decode (mB m_Mo_readBits) 37 = .ok (.ifCond .ne 8, 3) := by decide +kernel
theorem d_Mo_readBits_40 : decode (mB m_Mo_readBits) 40 = .ok (.aload_n 0, 1) := by decide +kernel
theorem d_Mo_readBits_41 : decode (mB m_Mo_readBits) 41 = .ok (.iconst 0, 1) := by decide +kernel
theorem d_Mo_readBits_42 : decode (mB m_Mo_readBits) 42 = .ok (.putfield 239, 3) := by decide +kernel
theorem d_Mo_readBits_45 : decode (mB m_Mo_readBits) 45 = .ok (.aload_n 0, 1) := by decide +kernel
theorem d_Mo_readBits_46 : decode (mB m_Mo_readBits) 46 = .ok (.getfield 223, 3) := by decide +kernel
theorem d_Mo_readBits_49 : decode (mB m_Mo_readBits) 49 = .ok (.ifCond .le 5, 3) := by decide +kernel
theorem d_Mo_readBits_52 : decode (mB m_Mo_readBits) 52 = .ok (.lconst 0, 1) := by decide +kernel
theorem d_Mo_readBits_53 : decode (mB m_Mo_readBits) 53 = .ok (.lreturn, 1) := by decide +kernel
theorem d_Mo_readBits_54 : decode (mB m_Mo_readBits) 54 = .ok (.lload_n 2, 1) := by decide +kernel
theorem d_Mo_readBits_55 : decode (mB m_Mo_readBits) 55 = .ok (.iconst 1, 1) := by decide +kernel
theorem d_Mo_readBits_56 : decode (mB m_Mo_readBits) 56 = .ok (.lshl, 1) := by decide +kernel
theorem d_Mo_readBits_57 : decode (mB m_Mo_readBits) 57 = .ok (.aload_n 0, 1) := by decide +kernel
theorem d_Mo_readBits_58 : decode (mB m_Mo_readBits) 58 = .ok (.getfield 16, 3) := by decide +kernel
theorem d_Mo_readBits_61 : decode (mB m_Mo_readBits) 61 = .ok (.aload_n 0, 1) := by decide +kernel
theorem d_Mo_readBits_62 : decode (mB m_Mo_readBits) 62 = .ok (.getfield 226, 3) := by decide +kernel
theorem d_Mo_readBits_65 : decode (mB m_Mo_readBits) 65 = .ok (.iconst 1, 1) := by decide +kernel
theorem d_Mo_readBits_66 : decode (mB m_Mo_readBits) 66 = .ok (.isub, 1) := by decide +kernel
theorem d_Mo_readBits_67 : decode (mB m_Mo_readBits) 67 = .ok (.iaload, 1) := by decide +kernel
theorem d_Mo_readBits_68 : decode (mB m_Mo_readBits) 68 = .ok (.bipush 7, 2) := by decide +kernel
theorem d_Mo_readBits_70 : decode (mB m_Mo_readBits) 70 = .ok (.aload_n 0, 1) := by decide +kernel
theorem d_Mo_readBits_71 : decode (mB m_Mo_readBits) 71 = .ok (.getfield 239, 3) := by decide +kernel
theorem d_Mo_readBits_74 : decode (mB m_Mo_readBits) 74 = .ok (.isub, 1) := by decide +kernel
theorem d_Mo_readBits_75 : decode (mB m_Mo_readBits) 75 = .ok (.ishr, 1) := by decide +kernel
theorem d_Mo_readBits_76 : decode (mB m_Mo_readBits) 76 = .ok (.iconst 1, 1) := by decide +kernel
theorem d_Mo_readBits_77 : decode (mB m_Mo_readBits) 77 = .ok (.iand, 1) := by decide +kernel
theorem d_Mo_readBits_78 : decode (mB m_Mo_readBits) 78 = .ok (.i2l, 1) := by decide +kernel
theorem d_Mo_readBits_79 : decode (mB m_Mo_readBits) 79 = .ok (.lor, 1) := by decide +kernel
theorem d_Mo_readBits_80 : decode (mB m_Mo_readBits) 80 = .ok (.lstore_n 2, 1) := by decide +kernel
theorem d_Mo_readBits_81 : decode (mB m_Mo_readBits) 81 = .ok (.aload_n 0, 1) := by decide +kernel
theorem d_Mo_readBits_82 : decode (mB m_Mo_readBits) 82 = .ok (.dup, 1) := by decide +kernel
theorem d_Mo_readBits_83 : decode (mB m_Mo_readBits) 83 = .ok (.getfield 239, 3) := by decide +kernel
theorem d_Mo_readBits_86 : decode (mB m_Mo_readBits) 86 = .ok (.iconst 1, 1) := by decide +kernel
theorem d_Mo_readBits_87 : decode (mB m_Mo_readBits) 87 = .ok (.iadd, 1) := by decide +kernel
theorem d_Mo_readBits_88 : decode (mB m_Mo_readBits) 88 = .ok (.putfield 239, 3) := by decide +kernel
theorem d_Mo_readBits_91 : decode (mB m_Mo_readBits) 91 = .ok (.iinc 4 1, 3) := by decide +kernel
theorem d_Mo_readBits_94 : decode (mB m_Mo_readBits) 94 = .ok (.goto (-89), 3) := by decide +kernel
theorem d_Mo_readBits_97 : decode (mB m_Mo_readBits) 97 = .ok (.lload_n 2, 1) := by decide +kernel
theorem d_Mo_readBits_98 : decode (mB m_Mo_readBits) 98 = .ok (.lreturn, 1) := by decide +kernel
theorem d_Mo_writeBits_0 : decode (mB m_Mo_writeBits) 0 = .ok (.iload_n 3, 1) := by decide +kernel
theorem d_Mo_writeBits_1 : decode (mB m_Mo_writeBits) 1 = .ok (.iconst 1, 1) := by decide +kernel
theorem d_Mo_writeBits_2 : decode (mB m_Mo_writeBits) 2 = .ok (.isub, 1) := by decide +kernel
theorem d_Mo_writeBits_3 : decode (mB m_Mo_writeBits) 3 = .ok (.istore 4, 2) := by decide +kernel
theorem d_Mo_writeBits_5 : decode (mB m_Mo_writeBits) 5 = .ok (.iload 4, 2) := by decide +kernel
theorem d_Mo_writeBits_7 : decode (mB m_Mo_writeBits) 7 = .ok (.ifCond .lt 89, 3) := by decide +kernel
theorem d_Mo_writeBits_10 : decode (mB m_Mo_writeBits) 10 = .ok (.aload_n 0, 1) := by decide +kernel
theorem d_Mo_writeBits_11 : decode (mB m_Mo_writeBits) 11 = .ok (.getfield 223, 3) := by decide +kernel
theorem d_Mo_writeBits_14 : decode (mB m_Mo_writeBits) 14 = .ok (.ifCond .ne 82, 3) := by decide +kernel
theorem d_Mo_writeBits_17 : decode (mB m_Mo_writeBits) 17 = .ok (.aload_n 0, 1) := by decide +kernel
theorem d_Mo_writeBits_18 : decode (mB m_Mo_writeBits) 18 = .ok (.getfield 239, 3) := by decide +kernel
theorem d_Mo_writeBits_21 : decode (mB m_Mo_writeBits) 21 = .ok (.bipush 8, 2) := by decide +kernel
theorem d_Mo_writeBits_23 : decode (mB m_Mo_writeBits) 23 = .ok (.if_icmp .ne 20, 3) := by decide +kernel
theorem d_Mo_writeBits_26 : decode (mB m_Mo_writeBits) 26 = .ok (.aload_n 0, 1) := by decide +kernel
theorem d_Mo_writeBits_27 : decode (mB m_Mo_writeBits) 27 = .ok (.iconst 0, 1) := by decide +kernel
theorem d_Mo_writeBits_28 : decode (mB m_Mo_writeBits) 28 = .ok (.invokevirtual 249, 3) := by decide +kernel
theorem d_Mo_writeBits_31 : decode (mB m_Mo_writeBits) 31 = .ok (.aload_n 0, 1) := by decide +kernel
theorem d_Mo_writeBits_32 : decode (mB m_Mo_writeBits) 32 = .ok (.getfield 223, 3) := by decide +kernel
theorem d_Mo_writeBits_35 : decode (mB m_Mo_writeBits) 35 = .ok (.ifCond .ne 8, 3) := by decide +kernel
theorem d_Mo_writeBits_38 : decode (mB m_Mo_writeBits) 38 = .ok (.aload_n 0, 1) := by decide +kernel
theorem d_Mo_writeBits_39 : decode (mB m_Mo_writeBits) 39 = .ok (.iconst 0, 1) := by decide +kernel
theorem d_Mo_writeBits_40 : decode (mB m_Mo_writeBits) 40 = .ok (.putfield 239, 3) := by decide +kernel
theorem d_Mo_writeBits_43 : decode (mB m_Mo_writeBits) 43 = .ok (.aload_n 0, 1) := by decide +kernel
theorem d_Mo_writeBits_44 : decode (mB m_Mo_writeBits) 44 = .ok (.getfield 223, 3) := by decide +kernel
theorem d_Mo_writeBits_47 : decode (mB m_Mo_writeBits) 47 = .ok (.ifCond .le 4, 3) := by decide +kernel
theorem d_Mo_writeBits_50 : decode (mB m_Mo_writeBits) 50 = .ok (.return_, 1) := by decide +kernel
theorem d_Mo_writeBits_51 : decode (mB m_Mo_writeBits) 51 = .ok (.aload_n 0, 1) := by decide +kernel
theorem d_Mo_writeBits_52 : decode (mB m_Mo_writeBits) 52 = .ok (.getfield 105, 3) := by decide +kernel
theorem d_Mo_writeBits_55 : decode (mB m_Mo_writeBits) 55 = .ok (.aload_n 0, 1) := by decide +kernel
theorem d_Mo_writeBits_56 : decode (mB m_Mo_writeBits) 56 = .ok (.getfield 226, 3) := by decide +kernel
theorem d_Mo_writeBits_59 : decode (mB m_Mo_writeBits) 59 = .ok (.iconst 1, 1) := by decide +kernel
theorem d_Mo_writeBits_60 : decode (mB m_Mo_writeBits) 60 = .ok (.isub, 1) := by decide +kernel
theorem d_Mo_writeBits_61 : decode (mB m_Mo_writeBits) 61 = .ok (.dup2, 1) := by decide +kernel
theorem d_Mo_writeBits_62 : decode (mB m_Mo_writeBits) 62 = .ok (.iaload, 1) := by decide +kernel
theorem d_Mo_writeBits_63 : decode (mB m_Mo_writeBits) 63 = .ok (.lload_n 1, 1) := by decide +kernel
theorem d_Mo_writeBits_64 : decode (mB m_Mo_writeBits) 64 = .ok (.iload 4, 2) := by decide +kernel
theorem d_Mo_writeBits_66 : decode (mB m_Mo_writeBits) 66 = .ok (.lshr, 1) := by decide +kernel
theorem d_Mo_writeBits_67 : decode (mB m_Mo_writeBits) 67 = .ok (.lconst 1, 1) := by decide +kernel
theorem d_Mo_writeBits_68 : decode (mB m_Mo_writeBits) 68 = .ok (.land, 1) := by decide +kernel
theorem d_Mo_writeBits_69 : decode (mB m_Mo_writeBits) 69 = .ok (.l2i, 1) := by decide +kernel
theorem d_Mo_writeBits_70 : decode (mB m_Mo_writeBits) 70 = .ok (.bipush 7, 2) := by decide +kernel
theorem d_Mo_writeBits_72 : decode (mB m_Mo_writeBits) 72 = .ok (.aload_n 0, 1) := by decide +kernel
theorem d_Mo_writeBits_73 : decode (mB m_Mo_writeBits) 73 = .ok (.getfield 239, 3) := by decide +kernel
theorem d_Mo_writeBits_76 : decode (mB m_Mo_writeBits) 76 = .ok (.isub, 1) := by decide +kernel
theorem d_Mo_writeBits_77 : decode (mB m_Mo_writeBits) 77 = .ok (.ishl, 1) := by decide +kernel
theorem d_Mo_writeBits_78 : decode (mB m_Mo_writeBits) 78 = .ok (.ior, 1) := by decide +kernel
theorem d_Mo_writeBits_79 : decode (mB m_Mo_writeBits) 79 = .ok (.iastore, 1) := by decide +kernel
theorem d_Mo_writeBits_80 : decode (mB m_Mo_writeBits) 80 = .ok (.aload_n 0, 1) := by decide +kernel
theorem d_Mo_writeBits_81 : decode (mB m_Mo_writeBits) 81 = .ok (.dup, 1) := by decide +kernel
theorem d_Mo_writeBits_82 : decode (mB m_Mo_writeBits) 82 = .ok (.getfield 239, 3) := by decide +kernel
theorem d_Mo_writeBits_85 : decode (mB m_Mo_writeBits) 85 = .ok (.iconst 1, 1) := by decide +kernel
theorem d_Mo_writeBits_86 : decode (mB m_Mo_writeBits) 86 = .ok (.iadd, 1) := by decide +kernel
theorem d_Mo_writeBits_87 : decode (mB m_Mo_writeBits) 87 = .ok (.putfield 239, 3) := by decide +kernel
theorem d_Mo_writeBits_90 : decode (mB m_Mo_writeBits) 90 = .ok (.iinc 4 (-1), 3) := by decide +kernel
theorem d_Mo_writeBits_93 : decode (mB m_Mo_writeBits) 93 = .ok (.goto (-88), 3) := by decide +kernel
theorem d_Mo_writeBits_96 : decode (mB m_Mo_writeBits) 96 = .ok (.return_, 1) := by decide +kernel
theorem d_Mo_readNumber_0 : decode (mB m_Mo_readNumber) 0 = .ok (.lconst 0, 1) := by decide +kernel
theorem d_Mo_readNumber_1 : decode (mB m_Mo_readNumber) 1 = .ok (.lstore_n 2, 1) := by decide +kernel
theorem d_Mo_readNumber_2 : decode (mB m_Mo_readNumber) 2 = .ok (.aload_n 0, 1) := by decide +kernel
theorem d_Mo_readNumber_3 : decode (mB m_Mo_readNumber) 3 = .ok (.getfield 33, 3) := by decide +kernel
theorem d_Mo_readNumber_6 : decode (mB m_Mo_readNumber) 6 = .ok (.iload_n 1, 1) := by decide +kernel
theorem d_Mo_readNumber_7 : decode (mB m_Mo_readNumber) 7 = .ok (.iaload, 1) := by decide +kernel
theorem d_Mo_readNumber_8 : decode (mB m_Mo_readNumber) 8 = .ok (.istore 4, 2) := by decide +kernel
theorem d_Mo_readNumber_10 : decode (mB m_Mo_readNumber) 10 = .ok (.iconst 0, 1) := by decide +kernel
theorem d_Mo_readNumber_11 : decode (mB m_Mo_readNumber) 11 = .ok (.istore 5, 2) := by decide +kernel
theorem d_Mo_readNumber_13 : decode (mB m_Mo_readNumber) 13 = .ok (.iload 5, 2) := by decide +kernel
theorem d_Mo_readNumber_15 : decode (mB m_Mo_readNumber) 15 = .ok (.iload 4, 2) := by decide +kernel
theorem d_Mo_readNumber_17 : decode (mB m_Mo_readNumber) 17 = .ok (.if_icmp .ge 48, 3) := by decide +kernel
theorem d_Mo_readNumber_20 : decode (mB m_Mo_readNumber) 20 = .ok (.aload_n 0, 1) := by decide +kernel
theorem d_Mo_readNumber_21 : decode (mB m_Mo_readNumber) 21 = .ok (.invokevirtual 245, 3) := by decide +kernel
theorem d_Mo_readNumber_24 : decode (mB m_Mo_readNumber) 24 = .ok (.i2l, 1) := by decide +kernel
theorem d_Mo_readNumber_25 : decode (mB m_Mo_readNumber) 25 = .ok (.lstore 6, 2) := by decide +kernel
theorem d_Mo_readNumber_27 : decode (mB m_Mo_readNumber) 27 = .ok (.aload_n 0, 1) := by decide +kernel
theorem d_Mo_readNumber_28 : decode (mB m_Mo_readNumber) 28 = .ok (.getfield 30, 3) := by decide +kernel
theorem d_Mo_readNumber_31 : decode (mB m_Mo_readNumber) 31 = .ok (.iload_n 1, 1) := by decide +kernel
theorem d_Mo_readNumber_32 : decode (mB m_Mo_readNumber) 32 = .ok (.iaload, 1) := by decide +kernel
theorem d_Mo_readNumber_33 : decode (mB m_Mo_readNumber) 33 = .ok (.bipush 118, 2) := by decide +kernel
theorem d_Mo_readNumber_35 : decode (mB m_Mo_readNumber) 35 = .ok (.if_icmp .ne 16, 3) := by decide +kernel
theorem d_Mo_readNumber_38 : decode (mB m_Mo_readNumber) 38 = .ok (.lload_n 2, 1) := by decide +kernel
theorem d_Mo_readNumber_39 : decode (mB m_Mo_readNumber) 39 = .ok (.lload 6, 2) := by decide +kernel
theorem d_Mo_readNumber_41 : decode (mB m_Mo_readNumber) 41 = .ok (.bipush 8, 2) := by decide +kernel
theorem d_Mo_readNumber_43 : decode (mB m_Mo_readNumber) 43 = .ok (.iload 5, 2) := by decide +kernel
theorem d_Mo_readNumber_45 : decode (mB m_Mo_readNumber) 45 = .ok (.imul, 1) := by decide +kernel
theorem d_Mo_readNumber_46 : decode (mB m_Mo_readNumber) 46 = .ok (.lshl, 1) := by decide +kernel
theorem d_Mo_readNumber_47 : decode (mB m_Mo_readNumber) 47 = .ok (.lor, 1) := by decide +kernel
theorem d_Mo_readNumber_48 : decode (mB m_Mo_readNumber) 48 = .ok (.goto 10, 3) := by decide +kernel
theorem d_Mo_readNumber_51 : decode (mB m_Mo_readNumber) 51 = .ok (.lload_n 2, 1) := by decide +kernel
theorem d_Mo_readNumber_52 : decode (mB m_Mo_readNumber) 52 = .ok (.bipush 8, 2) := by decide +kernel
theorem d_Mo_readNumber_54 : decode (mB m_Mo_readNumber) 54 = .ok (.lshl, 1) := by decide +kernel
theorem d_Mo_readNumber_55 : decode (mB m_Mo_readNumber) 55 = .ok (.lload 6, 2) := by decide +kernel
theorem d_Mo_readNumber_57 : decode (mB m_Mo_readNumber) 57 = .ok (.lor, 1) := by decide +kernel
theorem d_Mo_readNumber_58 : decode (mB m_Mo_readNumber) 58 = .ok (.lstore_n 2, 1) := by decide +kernel
theorem d_Mo_readNumber_59 : decode (mB m_Mo_readNumber) 59 = .ok (.iinc 5 1, 3) := by decide +kernel
theorem d_Mo_readNumber_62 : decode (mB m_Mo_readNumber) 62 = .ok (.goto (-49), 3) := by decide +kernel
theorem d_Mo_readNumber_65 : decode (mB m_Mo_readNumber) 65 = .ok (.aload_n 0, 1) := by decide +kernel
theorem d_Mo_readNumber_66 : decode (mB m_Mo_readNumber) 66 = .ok (.getfield 30, 3) := by decide +kernel
theorem d_Mo_readNumber_69 : decode (mB m_Mo_readNumber) 69 = .ok (.iload_n 1, 1) := by decide +kernel
theorem d_Mo_readNumber_70 : decode (mB m_Mo_readNumber) 70 = .ok (.iaload, 1) := by decide +kernel
theorem d_Mo_readNumber_71 : decode (mB m_Mo_readNumber) 71 = .ok (.bipush 115, 2) := by decide +kernel
theorem d_Mo_readNumber_73 : decode (mB m_Mo_readNumber) 73 = .ok (.if_icmp .ne 29, 3) := by decide +kernel
theorem d_Mo_readNumber_76 : decode (mB m_Mo_readNumber) 76 = .ok (.lload_n 2, 1) := by decide +kernel
theorem d_Mo_readNumber_77 : decode (mB m_Mo_readNumber) 77 = .ok (.bipush 8, 2) := by decide +kernel
theorem d_Mo_readNumber_79 : decode (mB m_Mo_readNumber) 79 = .ok (.iload 4, 2) := by decide +kernel
theorem d_Mo_readNumber_81 : decode (mB m_Mo_readNumber) 81 = .ok (.imul, 1) := by decide +kernel
theorem d_Mo_readNumber_82 : decode (mB m_Mo_readNumber) 82 = .ok (.iconst 1, 1) := by decide +kernel
theorem d_Mo_readNumber_83 : decode (mB m_Mo_readNumber) 83 = .ok (.isub, 1) := by decide +kernel
theorem d_Mo_readNumber_84 : decode (mB m_Mo_readNumber) 84 = .ok (.lshr, 1) := by decide +kernel
theorem d_Mo_readNumber_85 : decode (mB m_Mo_readNumber) 85 = .ok (.lconst 1, 1) := by decide +kernel
theorem d_Mo_readNumber_86 : decode (mB m_Mo_readNumber) 86 = .ok (.land, 1) := by decide +kernel
theorem d_Mo_readNumber_87 : decode (mB m_Mo_readNumber) 87 = .ok (.lconst 1, 1) := by decide +kernel
theorem d_Mo_readNumber_88 : decode (mB m_Mo_readNumber) 88 = .ok (.lcmp, 1) := by decide +kernel
theorem d_Mo_readNumber_89 : decode (mB m_Mo_readNumber) 89 = .ok (.ifCond .ne 13, 3) := by decide +kernel
theorem d_Mo_readNumber_92 : decode (mB m_Mo_readNumber) 92 = .ok (.lload_n 2, 1) := by decide +kernel
theorem d_Mo_readNumber_93 : decode (mB m_Mo_readNumber) 93 = .ok (.lconst 1, 1) := by decide +kernel
theorem d_Mo_readNumber_94 : decode (mB m_Mo_readNumber) 94 = .ok (.bipush 8, 2) := by decide +kernel
theorem d_Mo_readNumber_96 : decode (mB m_Mo_readNumber) 96 = .ok (.iload 4, 2) := by decide +kernel
theorem d_Mo_readNumber_98 : decode (mB m_Mo_readNumber) 98 = .ok (.imul, 1) := by decide +kernel
theorem d_Mo_readNumber_99 : decode (mB m_Mo_readNumber) 99 = .ok (.lshl, 1) := by decide +kernel
theorem d_Mo_readNumber_100 : decode (mB m_Mo_readNumber) 100 = .ok (.lsub, 1) := by decide +kernel
theorem d_Mo_readNumber_101 : decode (mB m_Mo_readNumber) 101 = .ok (.lstore_n 2, 1) := by decide +kernel
theorem d_Mo_readNumber_102 : decode (mB m_Mo_readNumber) 102 = .ok (.lload_n 2, 1) := by decide +kernel
theorem d_Mo_readNumber_103 : decode (mB m_Mo_readNumber) 103 = .ok (.lreturn, 1) := by decide +kernel
theorem d_Mo_writeNumber_0 : decode (mB m_Mo_writeNumber) 0 = .ok (.aload_n 0, 1) := by decide +kernel
theorem d_Mo_writeNumber_1 : decode (mB m_Mo_writeNumber) 1 = .ok (.getfield 33, 3) := by decide +kernel
theorem d_Mo_writeNumber_4 : decode (mB m_Mo_writeNumber) 4 = .ok (.iload_n 1, 1) := by decide +kernel
theorem d_Mo_writeNumber_5 : decode (mB m_Mo_writeNumber) 5 = .ok (.iaload, 1) := by decide +kernel
theorem d_Mo_writeNumber_6 : decode (mB m_Mo_writeNumber) 6 = .ok (.istore 4, 2) := by decide +kernel
theorem d_Mo_writeNumber_8 : decode (mB m_Mo_writeNumber) 8 = .ok (.iconst 0, 1) := by decide +kernel
theorem d_Mo_writeNumber_9 : decode (mB m_Mo_writeNumber) 9 = .ok (.istore 5, 2) := by decide +kernel
theorem d_Mo_writeNumber_11 : decode (mB m_Mo_writeNumber) 11 = .ok (.iload 5, 2) := by decide +kernel
theorem d_Mo_writeNumber_13 : decode (mB m_Mo_writeNumber) 13 = .ok (.iload 4, 2) := by decide +kernel
theorem d_Mo_writeNumber_15 : decode (mB m_Mo_writeNumber) 15 = .ok (.if_icmp .ge 42, 3) := by decide +kernel
theorem d_Mo_writeNumber_18 : decode (mB m_Mo_writeNumber) 18 = .ok (.aload_n 0, 1) := by decide +kernel
theorem d_Mo_writeNumber_19 : decode (mB m_Mo_writeNumber) 19 = .ok (.lload_n 2, 1) := by decide +kernel
theorem d_Mo_writeNumber_20 : decode (mB m_Mo_writeNumber) 20 = .ok (.bipush 8, 2) := by decide +kernel
theorem d_Mo_writeNumber_22 : decode (mB m_Mo_writeNumber) 22 = .ok (.aload_n 0, 1) := by decide +kernel
theorem d_Mo_writeNumber_23 : decode (mB m_Mo_writeNumber) 23 = .ok (.getfield 30, 3) := by decide +kernel
theorem d_Mo_writeNumber_26 : decode (mB m_Mo_writeNumber) 26 = .ok (.iload_n 1, 1) := by decide +kernel
theorem d_Mo_writeNumber_27 : decode (mB m_Mo_writeNumber) 27 = .ok (.iaload, 1) := by decide +kernel
theorem d_Mo_writeNumber_28 : decode (mB m_Mo_writeNumber) 28 = .ok (.bipush 118, 2) := by decide +kernel
theorem d_Mo_writeNumber_30 : decode (mB m_Mo_writeNumber) 30 = .ok (.if_icmp .ne 8, 3) := by decide +kernel
theorem d_Mo_writeNumber_33 : decode (mB m_Mo_writeNumber) 33 = .ok (.iload 5, 2) := by decide +kernel
theorem d_Mo_writeNumber_35 : decode (mB m_Mo_writeNumber) 35 = .ok (.goto 10, 3) := by decide +kernel
theorem d_Mo_writeNumber_38 : decode (mB m_Mo_writeNumber) 38 = .ok (.iload 4, 2) := by decide +kernel
theorem d_Mo_writeNumber_40 : decode (mB m_Mo_writeNumber) 40 = .ok (.iconst 1, 1) := by decide +kernel
theorem d_Mo_writeNumber_41 : decode (mB m_Mo_writeNumber) 41 = .ok (.isub, 1) := by decide +kernel
theorem d_Mo_writeNumber_42 : decode (mB m_Mo_writeNumber) 42 = .ok (.iload 5, 2) := by decide +kernel
theorem d_Mo_writeNumber_44 : decode (mB m_Mo_writeNumber) 44 = .ok (.isub, 1) := by decide +kernel
theorem d_Mo_writeNumber_45 : decode (mB m_Mo_writeNumber) 45 = .ok (.imul, 1) := by decide +kernel
theorem d_Mo_writeNumber_46 : decode (mB m_Mo_writeNumber) 46 = .ok (.lshr, 1) := by decide +kernel
theorem d_Mo_writeNumber_47 : decode (mB m_Mo_writeNumber) 47 = .ok (.l2i, 1) := by decide +kernel
theorem d_Mo_writeNumber_48 : decode (mB m_Mo_writeNumber) 48 = .ok (.invokevirtual 249, 3) := by decide +kernel
theorem d_Mo_writeNumber_51 : decode (mB m_Mo_writeNumber) 51 = .ok (.iinc 5 1, 3) := by decide +kernel
theorem d_Mo_writeNumber_54 : decode (mB m_Mo_writeNumber) 54 = .ok (.goto (-43), 3) := by decide +kernel
theorem d_Mo_writeNumber_57 : decode (mB m_Mo_writeNumber) 57 = .ok (.return_, 1) := by decide +kernel
theorem d_Mo_sizedUnit_0 : decode (mB m_Mo_sizedUnit) 0 = .ok (.aload_n 0, 1) := by decide +kernel
theorem d_Mo_sizedUnit_1 : decode (mB m_Mo_sizedUnit) 1 = .ok (.getfield 30, 3) := by decide +kernel
theorem d_Mo_sizedUnit_4 : decode (mB m_Mo_sizedUnit) 4 = .ok (.iload_n 1, 1) := by decide +kernel
theorem d_Mo_sizedUnit_5 : decode (mB m_Mo_sizedUnit) 5 = .ok (.iaload, 1) := by decide +kernel
theorem d_Mo_sizedUnit_6 : decode (mB m_Mo_sizedUnit) 6 = .ok (.bipush 112, 2) := by decide +kernel
theorem d_Mo_sizedUnit_8 : decode (mB m_Mo_sizedUnit) 8 = .ok (.if_icmp .ne 7, 3) := by decide +kernel
theorem d_Mo_sizedUnit_11 : decode (mB m_Mo_sizedUnit) 11 = .ok (.iconst 1, 1) := by decide +kernel
theorem d_Mo_sizedUnit_12 : decode (mB m_Mo_sizedUnit) 12 = .ok (.goto 4, 3) := by decide +kernel
theorem d_Mo_sizedUnit_15 : decode (mB m_Mo_sizedUnit) 15 = .ok (.iconst 0, 1) := by decide +kernel
theorem d_Mo_sizedUnit_16 : decode (mB m_Mo_sizedUnit) 16 = .ok (.istore_n 2, 1) := by decide +kernel
theorem d_Mo_sizedUnit_17 : decode (mB m_Mo_sizedUnit) 17 = .ok (.aload_n 0, 1) := by decide +kernel
theorem d_Mo_sizedUnit_18 : decode (mB m_Mo_sizedUnit) 18 = .ok (.getfield 242, 3) := by decide +kernel
theorem d_Mo_sizedUnit_21 : decode (mB m_Mo_sizedUnit) 21 = .ok (.ifCond .eq 79, 3) := by decide +kernel
theorem d_Mo_sizedUnit_24 : decode (mB m_Mo_sizedUnit) 24 = .ok (.aload_n 0, 1) := by decide +kernel
theorem d_Mo_sizedUnit_25 : decode (mB m_Mo_sizedUnit) 25 = .ok (.invokevirtual 252, 3) := by decide +kernel
theorem d_Mo_sizedUnit_28 : decode (mB m_Mo_sizedUnit) 28 = .ok (.lstore_n 3, 1) := by decide +kernel
theorem d_Mo_sizedUnit_29 : decode (mB m_Mo_sizedUnit) 29 = .ok (.aload_n 0, 1) := by decide +kernel
theorem d_Mo_sizedUnit_30 : decode (mB m_Mo_sizedUnit) 30 = .ok (.lload_n 3, 1) := by decide +kernel
theorem d_Mo_sizedUnit_31 : decode (mB m_Mo_sizedUnit) 31 = .ok (.aload_n 0, 1) := by decide +kernel
theorem d_Mo_sizedUnit_32 : decode (mB m_Mo_sizedUnit) 32 = .ok (.getfield 75, 3) := by decide +kernel
theorem d_Mo_sizedUnit_35 : decode (mB m_Mo_sizedUnit) 35 = .ok (.iload_n 1, 1) := by decide +kernel
theorem d_Mo_sizedUnit_36 : decode (mB m_Mo_sizedUnit) 36 = .ok (.laload, 1) := by decide +kernel
theorem d_Mo_sizedUnit_37 : decode (mB m_Mo_sizedUnit) 37 = .ok (.lcmp, 1) := by decide +kernel
theorem d_Mo_sizedUnit_38 : decode (mB m_Mo_sizedUnit) 38 = .ok (.ifCond .lt 14, 3) := by decide +kernel
theorem d_Mo_sizedUnit_41 : decode (mB m_Mo_sizedUnit) 41 = .ok (.lload_n 3, 1) := by decide +kernel
theorem d_Mo_sizedUnit_42 : decode (mB m_Mo_sizedUnit) 42 = .ok (.aload_n 0, 1) := by decide +kernel
theorem d_Mo_sizedUnit_43 : decode (mB m_Mo_sizedUnit) 43 = .ok (.getfield 78, 3) := by decide +kernel
theorem d_Mo_sizedUnit_46 : decode (mB m_Mo_sizedUnit) 46 = .ok (.iload_n 1, 1) := by decide +kernel
theorem d_Mo_sizedUnit_47 : decode (mB m_Mo_sizedUnit) 47 = .ok (.laload, 1) := by decide +kernel
theorem d_Mo_sizedUnit_48 : decode (mB m_Mo_sizedUnit) 48 = .ok (.lcmp, 1) := by decide +kernel
theorem d_Mo_sizedUnit_49 : decode (mB m_Mo_sizedUnit) 49 = .ok (.ifCond .le 7, 3) := by decide +kernel
theorem d_Mo_sizedUnit_52 : decode (mB m_Mo_sizedUnit) 52 = .ok (.iconst 1, 1) := by decide +kernel
theorem d_Mo_sizedUnit_53 : decode (mB m_Mo_sizedUnit) 53 = .ok (.goto 4, 3) := by decide +kernel
theorem d_Mo_sizedUnit_56 : decode (mB m_Mo_sizedUnit) 56 = .ok (.iconst 0, 1) := by decide +kernel
theorem d_Mo_sizedUnit_57 : decode (mB m_Mo_sizedUnit) 57 = .ok (.invokevirtual 229, 3) := by decide +kernel
theorem d_Mo_sizedUnit_60 : decode (mB m_Mo_sizedUnit) 60 = .ok (.aload_n 0, 1) := by decide +kernel
theorem d_Mo_sizedUnit_61 : decode (mB m_Mo_sizedUnit) 61 = .ok (.getfield 90, 3) := by decide +kernel
theorem d_Mo_sizedUnit_64 : decode (mB m_Mo_sizedUnit) 64 = .ok (.iload_n 1, 1) := by decide +kernel
theorem d_Mo_sizedUnit_65 : decode (mB m_Mo_sizedUnit) 65 = .ok (.lload_n 3, 1) := by decide +kernel
theorem d_Mo_sizedUnit_66 : decode (mB m_Mo_sizedUnit) 66 = .ok (.lastore, 1) := by decide +kernel
theorem d_Mo_sizedUnit_67 : decode (mB m_Mo_sizedUnit) 67 = .ok (.aload_n 0, 1) := by decide +kernel
theorem d_Mo_sizedUnit_68 : decode (mB m_Mo_sizedUnit) 68 = .ok (.getfield 223, 3) := by decide +kernel
theorem d_Mo_sizedUnit_71 : decode (mB m_Mo_sizedUnit) 71 = .ok (.ifCond .le 4, 3) := by decide +kernel
theorem d_Mo_sizedUnit_74 : decode (mB m_Mo_sizedUnit) 74 = .ok (.return_, 1) := by decide +kernel
theorem d_Mo_sizedUnit_75 : decode (mB m_Mo_sizedUnit) 75 = .ok (.iload_n 2, 1) := by decide +kernel
theorem d_Mo_sizedUnit_76 : decode (mB m_Mo_sizedUnit) 76 = .ok (.ifCond .eq 17, 3) := by decide +kernel
theorem d_Mo_sizedUnit_79 : decode (mB m_Mo_sizedUnit) 79 = .ok (.aload_n 0, 1) := by decide +kernel
theorem d_Mo_sizedUnit_80 : decode (mB m_Mo_sizedUnit) 80 = .ok (.lload_n 3, 1) := by decide +kernel
theorem d_Mo_sizedUnit_81 : decode (mB m_Mo_sizedUnit) 81 = .ok (.aload_n 0, 1) := by decide +kernel
theorem d_Mo_sizedUnit_82 : decode (mB m_Mo_sizedUnit) 82 = .ok (.getfield 33, 3) := by decide +kernel
theorem d_Mo_sizedUnit_85 : decode (mB m_Mo_sizedUnit) 85 = .ok (.iload_n 1, 1) := by decide +kernel
theorem d_Mo_sizedUnit_86 : decode (mB m_Mo_sizedUnit) 86 = .ok (.iaload, 1) := by decide +kernel
theorem d_Mo_sizedUnit_87 : decode (mB m_Mo_sizedUnit) 87 = .ok (.invokevirtual 256, 3) := by decide +kernel
theorem d_Mo_sizedUnit_90 : decode (mB m_Mo_sizedUnit) 90 = .ok (.goto 9, 3) := by decide +kernel
theorem d_Mo_sizedUnit_93 : decode (mB m_Mo_sizedUnit) 93 = .ok (.aload_n 0, 1) := by decide +kernel
theorem d_Mo_sizedUnit_94 : decode (mB m_Mo_sizedUnit) 94 = .ok (.iload_n 1, 1) := by decide +kernel
theorem d_Mo_sizedUnit_95 : decode (mB m_Mo_sizedUnit) 95 = .ok (.lload_n 3, 1) := by decide +kernel
theorem d_Mo_sizedUnit_96 : decode (mB m_Mo_sizedUnit) 96 = .ok (.invokevirtual 260, 3) := by decide +kernel
theorem d_Mo_sizedUnit_99 : decode (mB m_Mo_sizedUnit) 99 = .ok (.return_, 1) := by decide +kernel
theorem d_Mo_sizedUnit_100 : decode (mB m_Mo_sizedUnit) 100 = .ok (.iload_n 2, 1) := by decide +kernel
theorem d_Mo_sizedUnit_101 : decode (mB m_Mo_sizedUnit) 101 = .ok (.ifCond .eq 16, 3) := by decide +kernel
theorem d_Mo_sizedUnit_104 : decode (mB m_Mo_sizedUnit) 104 = .ok (.aload_n 0, 1) := by decide +kernel
theorem d_Mo_sizedUnit_105 : decode (mB m_Mo_sizedUnit) 105 = .ok (.aload_n 0, 1) := by decide +kernel
theorem d_Mo_sizedUnit_106 : decode (mB m_Mo_sizedUnit) 106 = .ok (.getfield 33, 3) := by decide +kernel
theorem d_Mo_sizedUnit_109 : decode (mB m_Mo_sizedUnit) 109 = .ok (.iload_n 1, 1) := by decide +kernel
theorem d_Mo_sizedUnit_110 : decode (mB m_Mo_sizedUnit) 110 = .ok (.iaload, 1) := by decide +kernel
theorem d_Mo_sizedUnit_111 : decode (mB m_Mo_sizedUnit) 111 = .ok (.invokevirtual 264, 3) := by decide +kernel
theorem d_Mo_sizedUnit_114 : decode (mB m_Mo_sizedUnit) 114 = .ok (.goto 8, 3) := by decide +kernel
theorem d_Mo_sizedUnit_117 : decode (mB m_Mo_sizedUnit) 117 = .ok (.aload_n 0, 1) := by decide +kernel
theorem d_Mo_sizedUnit_118 : decode (mB m_Mo_sizedUnit) 118 = .ok (.iload_n 1, 1) := by decide +kernel
theorem d_Mo_sizedUnit_119 : decode (mB m_Mo_sizedUnit) 119 = .ok (.invokevirtual 268, 3) := by decide +kernel
theorem d_Mo_sizedUnit_122 : decode (mB m_Mo_sizedUnit) 122 = .ok (.lstore_n 3, 1) := by decide +kernel
theorem d_Mo_sizedUnit_123 : decode (mB m_Mo_sizedUnit) 123 = .ok (.aload_n 0, 1) := by decide +kernel
theorem d_Mo_sizedUnit_124 : decode (mB m_Mo_sizedUnit) 124 = .ok (.lload_n 3, 1) := by decide +kernel
theorem d_Mo_sizedUnit_125 : decode (mB m_Mo_sizedUnit) 125 = .ok (.aload_n 0, 1) := by decide +kernel
theorem d_Mo_sizedUnit_126 : decode (mB m_Mo_sizedUnit) 126 = .ok (.getfield 75, 3) := by decide +kernel
theorem d_Mo_sizedUnit_129 : decode (mB m_Mo_sizedUnit) 129 = .ok (.iload_n 1, 1) := by decide +kernel
theorem d_Mo_sizedUnit_130 : decode (mB m_Mo_sizedUnit) 130 = .ok (.laload, 1) := by decide +kernel
theorem d_Mo_sizedUnit_131 : decode (mB m_Mo_sizedUnit) 131 = .ok (.lcmp, 1) := by decide +kernel
theorem d_Mo_sizedUnit_132 : decode (mB m_Mo_sizedUnit) 132 = .ok (.ifCond .lt 14, 3) := by decide +kernel
theorem d_Mo_sizedUnit_135 : decode (mB m_Mo_sizedUnit) 135 = .ok (.lload_n 3, 1) := by decide +kernel
theorem d_Mo_sizedUnit_136 : decode (mB m_Mo_sizedUnit) 136 = .ok (.aload_n 0, 1) := by decide +kernel
theorem d_Mo_sizedUnit_137 : decode (mB m_Mo_sizedUnit) 137 = .ok (.getfield 78, 3) := by decide +kernel
theorem d_Mo_sizedUnit_140 : decode (mB m_Mo_sizedUnit) 140 = .ok (.iload_n 1, 1) := by decide +kernel
theorem d_Mo_sizedUnit_141 : decode (mB m_Mo_sizedUnit) 141 = .ok (.laload, 1) := by decide +kernel
theorem d_Mo_sizedUnit_142 : decode (mB m_Mo_sizedUnit) 142 = .ok (.lcmp, 1) := by decide +kernel
theorem d_Mo_sizedUnit_143 : decode (mB m_Mo_sizedUnit) 143 = .ok (.ifCond .le 7, 3) := by decide +kernel
theorem d_Mo_sizedUnit_146 : decode (mB m_Mo_sizedUnit) 146 = .ok (.iconst 1, 1) := by decide +kernel
theorem d_Mo_sizedUnit_147 : decode (mB m_Mo_sizedUnit) 147 = .ok (.goto 4, 3) := by decide +kernel
theorem d_Mo_sizedUnit_150 : decode (mB m_Mo_sizedUnit) 150 = .ok (.iconst 0, 1) := by decide +kernel
theorem d_Mo_sizedUnit_151 : decode (mB m_Mo_sizedUnit) 151 = .ok (.invokevirtual 229, 3) := by decide +kernel
theorem d_Mo_sizedUnit_154 : decode (mB m_Mo_sizedUnit) 154 = .ok (.aload_n 0, 1) := by decide +kernel
theorem d_Mo_sizedUnit_155 : decode (mB m_Mo_sizedUnit) 155 = .ok (.getfield 90, 3) := by decide +kernel
theorem d_Mo_sizedUnit_158 : decode (mB m_Mo_sizedUnit) 158 = .ok (.iload_n 1, 1) := by decide +kernel
theorem d_Mo_sizedUnit_159 : decode (mB m_Mo_sizedUnit) 159 = .ok (.lload_n 3, 1) := by decide +kernel
theorem d_Mo_sizedUnit_160 : decode (mB m_Mo_sizedUnit) 160 = .ok (.lastore, 1) := by decide +kernel
theorem d_Mo_sizedUnit_161 : decode (mB m_Mo_sizedUnit) 161 = .ok (.aload_n 0, 1) := by decide +kernel
theorem d_Mo_sizedUnit_162 : decode (mB m_Mo_sizedUnit) 162 = .ok (.lload_n 3, 1) := by decide +kernel
theorem d_Mo_sizedUnit_163 : decode (mB m_Mo_sizedUnit) 163 = .ok (.invokevirtual 271, 3) := by decide +kernel
theorem d_Mo_sizedUnit_166 : decode (mB m_Mo_sizedUnit) 166 = .ok (.return_, 1) := by decide +kernel
theorem d_Mo_floating_0 : decode (mB m_Mo_floating) 0 = .ok (.aload_n 0, 1) := by decide +kernel
theorem d_Mo_floating_1 : decode (mB m_Mo_floating) 1 = .ok (.getfield 30, 3) := by decide +kernel
theorem d_Mo_floating_4 : decode (mB m_Mo_floating) 4 = .ok (.iload_n 1, 1) := by decide +kernel
theorem d_Mo_floating_5 : decode (mB m_Mo_floating) 5 = .ok (.iaload, 1) := by decide +kernel
theorem d_Mo_floating_6 : decode (mB m_Mo_floating) 6 = .ok (.bipush 102, 2) := by decide +kernel
theorem d_Mo_floating_8 : decode (mB m_Mo_floating) 8 = .ok (.if_icmp .ne 7, 3) := by decide +kernel
theorem d_Mo_floating_11 : decode (mB m_Mo_floating) 11 = .ok (.iconst 4, 1) := by decide +kernel
theorem d_Mo_floating_12 : decode (mB m_Mo_floating) 12 = .ok (.goto 5, 3) := by decide +kernel
theorem d_Mo_floating_15 : decode (mB m_Mo_floating) 15 = .ok (.bipush 8, 2) := by decide +kernel
theorem d_Mo_floating_17 : decode (mB m_Mo_floating) 17 = .ok (.istore_n 2, 1) := by decide +kernel
theorem d_Mo_floating_18 : decode (mB m_Mo_floating) 18 = .ok (.aload_n 0, 1) := by decide +kernel
theorem d_Mo_floating_19 : decode (mB m_Mo_floating) 19 = .ok (.getfield 242, 3) := by decide +kernel
theorem d_Mo_floating_22 : decode (mB m_Mo_floating) 22 = .ok (.ifCond .eq 59, 3) := by decide +kernel
theorem d_Mo_floating_25 : decode (mB m_Mo_floating) 25 = .ok (.aload_n 0, 1) := by decide +kernel
theorem d_Mo_floating_26 : decode (mB m_Mo_floating) 26 = .ok (.invokevirtual 252, 3) := by decide +kernel
theorem d_Mo_floating_29 : decode (mB m_Mo_floating) 29 = .ok (.lstore_n 3, 1) := by decide +kernel
theorem d_Mo_floating_30 : decode (mB m_Mo_floating) 30 = .ok (.aload_n 0, 1) := by decide +kernel
theorem d_Mo_floating_31 : decode (mB m_Mo_floating) 31 = .ok (.iload_n 2, 1) := by decide +kernel
theorem d_Mo_floating_32 : decode (mB m_Mo_floating) 32 = .ok (.iconst 4, 1) := by decide +kernel
theorem d_Mo_floating_33 : decode (mB m_Mo_floating) 33 = .ok (.if_icmp .ne 15, 3) := by decide +kernel
theorem d_Mo_floating_36 : decode (mB m_Mo_floating) 36 = .ok (.lload_n 3, 1) := by decide +kernel
theorem d_Mo_floating_37 : decode (mB m_Mo_floating) 37 = .ok (.lload_n 3, 1) := by decide +kernel
theorem d_Mo_floating_38 : decode (mB m_Mo_floating) 38 = .ok (.l2i, 1) := by decide +kernel
theorem d_Mo_floating_39 : decode (mB m_Mo_floating) 39 = .ok (.i2l, 1) := by decide +kernel
theorem d_Mo_floating_40 : decode (mB m_Mo_floating) 40 = .ok (.lcmp, 1) := by decide +kernel
theorem d_Mo_floating_41 : decode (mB m_Mo_floating) 41 = .ok (.ifCond .eq 7, 3) := by decide +kernel
theorem d_Mo_floating_44 : decode (mB m_Mo_floating) 44 = .ok (.iconst 1, 1) := by decide +kernel
theorem d_Mo_floating_45 : decode (mB m_Mo_floating) 45 = .ok (.goto 4, 3) := by decide +kernel
theorem d_Mo_floating_48 : decode (mB m_Mo_floating) 48 = .ok (.iconst 0, 1) := by decide +kernel
theorem d_Mo_floating_49 : decode (mB m_Mo_floating) 49 = .ok (.invokevirtual 229, 3) := by decide +kernel
theorem d_Mo_floating_52 : decode (mB m_Mo_floating) 52 = .ok (.iload_n 2, 1) := by decide +kernel
theorem d_Mo_floating_53 : decode (mB m_Mo_floating) 53 = .ok (.iconst 1, 1) := by decide +kernel
theorem d_Mo_floating_54 : decode (mB m_Mo_floating) 54 = .ok (.isub, 1) := by decide +kernel
theorem d_Mo_floating_55 : decode (mB m_Mo_floating) 55 = .ok (.istore 5, 2) := by decide +kernel
theorem d_Mo_floating_57 : decode (mB m_Mo_floating) 57 = .ok (.iload 5, 2) := by decide +kernel
theorem d_Mo_floating_59 : decode (mB m_Mo_floating) 59 = .ok (.ifCond .lt 21, 3) := by decide +kernel
theorem d_Mo_floating_62 : decode (mB m_Mo_floating) 62 = .ok (.aload_n 0, 1) := by decide +kernel
theorem d_Mo_floating_63 : decode (mB m_Mo_floating) 63 = .ok (.lload_n 3, 1) := by decide +kernel
theorem d_Mo_floating_64 : decode (mB m_Mo_floating) 64 = .ok (.bipush 8, 2) := by decide +kernel
theorem d_Mo_floating_66 : decode (mB m_Mo_floating) 66 = .ok (.iload 5, 2) := by decide +kernel
theorem d_Mo_floating_68 : decode (mB m_Mo_floating) 68 = .ok (.imul, 1) := by decide +kernel
theorem d_Mo_floating_69 : decode (mB m_Mo_floating) 69 = .ok (.lshr, 1) := by decide +kernel
theorem d_Mo_floating_70 : decode (mB m_Mo_floating) 70 = .ok (.l2i, 1) := by decide +kernel
theorem d_Mo_floating_71 : decode (mB m_Mo_floating) 71 = .ok (.invokevirtual 249, 3) := by decide +kernel
theorem d_Mo_floating_74 : decode (mB m_Mo_floating) 74 = .ok (.iinc 5 (-1), 3) := by decide +kernel
theorem d_Mo_floating_77 : decode (mB m_Mo_floating) 77 = .ok (.goto (-20), 3) := by decide +kernel
theorem d_Mo_floating_80 : decode (mB m_Mo_floating) 80 = .ok (.return_, 1) := by decide +kernel
theorem d_Mo_floating_81 : decode (mB m_Mo_floating) 81 = .ok (.lconst 0, 1) := by decide +kernel
theorem d_Mo_floating_82 : decode (mB m_Mo_floating) 82 = .ok (.lstore_n 3, 1) := by decide +kernel
theorem d_Mo_floating_83 : decode (mB m_Mo_floating) 83 = .ok (.iconst 0, 1) := by decide +kernel
theorem d_Mo_floating_84 : decode (mB m_Mo_floating) 84 = .ok (.istore 5, 2) := by decide +kernel
theorem d_Mo_floating_86 : decode (mB m_Mo_floating) 86 = .ok (.iload 5, 2) := by decide +kernel
theorem d_Mo_floating_88 : decode (mB m_Mo_floating) 88 = .ok (.iload_n 2, 1) := by decide +kernel
theorem d_Mo_floating_89 : decode (mB m_Mo_floating) 89 = .ok (.if_icmp .ge 20, 3) := by decide +kernel
theorem d_Mo_floating_92 : decode (mB m_Mo_floating) 92 = .ok (.lload_n 3, 1) := by decide +kernel
theorem d_Mo_floating_93 : decode (mB m_Mo_floating) 93 = .ok (.bipush 8, 2) := by decide +kernel
theorem d_Mo_floating_95 : decode (mB m_Mo_floating) 95 = .ok (.lshl, 1) := by decide +kernel
theorem d_Mo_floating_96 : decode (mB m_Mo_floating) 96 = .ok (.aload_n 0, 1) := by decide +kernel
theorem d_Mo_floating_97 : decode (mB m_Mo_floating) 97 = .ok (.invokevirtual 245, 3) := by decide +kernel
theorem d_Mo_floating_100 : decode (mB m_Mo_floating) 100 = .ok (.i2l, 1) := by decide +kernel
theorem d_Mo_floating_101 : decode (mB m_Mo_floating) 101 = .ok (.lor, 1) := by decide +kernel
theorem d_Mo_floating_102 : decode (mB m_Mo_floating) 102 = .ok (.lstore_n 3, 1) := by decide +kernel
theorem d_Mo_floating_103 : decode (mB m_Mo_floating) 103 = .ok (.iinc 5 1, 3) := by decide +kernel
theorem d_Mo_floating_106 : decode (mB m_Mo_floating) 106 = .ok (.goto (-20), 3) := by decide +kernel
theorem d_Mo_floating_109 : decode (mB m_Mo_floating) 109 = .ok (.aload_n 0, 1) := by decide +kernel
theorem d_Mo_floating_110 : decode (mB m_Mo_floating) 110 = .ok (.iload_n 2, 1) := by decide +kernel
theorem d_Mo_floating_111 : decode (mB m_Mo_floating) 111 = .ok (.iconst 4, 1) := by decide +kernel
theorem d_Mo_floating_112 : decode (mB m_Mo_floating) 112 = .ok (.if_icmp .ne 9, 3) := by decide +kernel
theorem d_Mo_floating_115 : decode (mB m_Mo_floating) 115 = .ok (.lload_n 3, 1) := by decide +kernel
theorem d_Mo_floating_116 : decode (mB m_Mo_floating) 116 = .ok (.l2i, 1) := by decide +kernel
theorem d_Mo_floating_117 : decode (mB m_Mo_floating) 117 = .ok (.i2l, 1) := by decide +kernel
theorem d_Mo_floating_118 : decode (mB m_Mo_floating) 118 = .ok (.goto 4, 3) := by decide +kernel
theorem d_Mo_floating_121 : decode (mB m_Mo_floating) 121 = .ok (.lload_n 3, 1) := by decide +kernel
theorem d_Mo_floating_122 : decode (mB m_Mo_floating) 122 = .ok (.invokevirtual 271, 3) := by decide +kernel
theorem d_Mo_floating_125 : decode (mB m_Mo_floating) 125 = .ok (.return_, 1) := by decide +kernel
theorem d_Mo_words_0 : decode (mB m_Mo_words) 0 = .ok (.iconst 0, 1) := by decide +kernel
theorem d_Mo_words_1 : decode (mB m_Mo_words) 1 = .ok (.istore_n 2, 1) := by decide +kernel
theorem d_Mo_words_2 : decode (mB m_Mo_words) 2 = .ok (.iload_n 1, 1) := by decide +kernel
theorem d_Mo_words_3 : decode (mB m_Mo_words) 3 = .ok (.ifCond .eq 85, 3) := by decide +kernel
theorem d_Mo_words_6 : decode (mB m_Mo_words) 6 = .ok (.aload_n 0, 1) := by decide +kernel
theorem d_Mo_words_7 : decode (mB m_Mo_words) 7 = .ok (.getfield 226, 3) := by decide +kernel
theorem d_Mo_words_10 : decode (mB m_Mo_words) 10 = .ok (.iload_n 2, 1) := by decide +kernel
theorem d_Mo_words_11 : decode (mB m_Mo_words) 11 = .ok (.iadd, 1) := by decide +kernel
theorem d_Mo_words_12 : decode (mB m_Mo_words) 12 = .ok (.aload_n 0, 1) := by decide +kernel
theorem d_Mo_words_13 : decode (mB m_Mo_words) 13 = .ok (.getfield 220, 3) := by decide +kernel
theorem d_Mo_words_16 : decode (mB m_Mo_words) 16 = .ok (.if_icmp .ge 29, 3) := by decide +kernel
theorem d_Mo_words_19 : decode (mB m_Mo_words) 19 = .ok (.aload_n 0, 1) := by decide +kernel
theorem d_Mo_words_20 : decode (mB m_Mo_words) 20 = .ok (.getfield 16, 3) := by decide +kernel
theorem d_Mo_words_23 : decode (mB m_Mo_words) 23 = .ok (.aload_n 0, 1) := by decide +kernel
theorem d_Mo_words_24 : decode (mB m_Mo_words) 24 = .ok (.getfield 226, 3) := by decide +kernel
theorem d_Mo_words_27 : decode (mB m_Mo_words) 27 = .ok (.iload_n 2, 1) := by decide +kernel
theorem d_Mo_words_28 : decode (mB m_Mo_words) 28 = .ok (.iadd, 1) := by decide +kernel
theorem d_Mo_words_29 : decode (mB m_Mo_words) 29 = .ok (.iaload, 1) := by decide +kernel
theorem d_Mo_words_30 : decode (mB m_Mo_words) 30 = .ok (.ifCond .eq 15, 3) := by decide +kernel
theorem d_Mo_words_33 : decode (mB m_Mo_words) 33 = .ok (.iload_n 2, 1) := by decide +kernel
theorem d_Mo_words_34 : decode (mB m_Mo_words) 34 = .ok (.bipush 21, 2) := by decide +kernel
theorem d_Mo_words_36 : decode (mB m_Mo_words) 36 = .ok (.if_icmp .ge 9, 3) := by decide +kernel
theorem d_Mo_words_39 : decode (mB m_Mo_words) 39 = .ok (.iinc 2 1, 3) := by decide +kernel
theorem d_Mo_words_42 : decode (mB m_Mo_words) 42 = .ok (.goto (-36), 3) := by decide +kernel
theorem d_Mo_words_45 : decode (mB m_Mo_words) 45 = .ok (.aload_n 0, 1) := by decide +kernel
theorem d_Mo_words_46 : decode (mB m_Mo_words) 46 = .ok (.iload_n 2, 1) := by decide +kernel
theorem d_Mo_words_47 : decode (mB m_Mo_words) 47 = .ok (.bipush 20, 2) := by decide +kernel
theorem d_Mo_words_49 : decode (mB m_Mo_words) 49 = .ok (.if_icmp .le 7, 3) := by decide +kernel
theorem d_Mo_words_52 : decode (mB m_Mo_words) 52 = .ok (.iconst 1, 1) := by decide +kernel
theorem d_Mo_words_53 : decode (mB m_Mo_words) 53 = .ok (.goto 4, 3) := by decide +kernel
theorem d_Mo_words_56 : decode (mB m_Mo_words) 56 = .ok (.iconst 0, 1) := by decide +kernel
theorem d_Mo_words_57 : decode (mB m_Mo_words) 57 = .ok (.invokevirtual 229, 3) := by decide +kernel
theorem d_Mo_words_60 : decode (mB m_Mo_words) 60 = .ok (.aload_n 0, 1) := by decide +kernel
theorem d_Mo_words_61 : decode (mB m_Mo_words) 61 = .ok (.getfield 223, 3) := by decide +kernel
theorem d_Mo_words_64 : decode (mB m_Mo_words) 64 = .ok (.ifCond .ne 34, 3) := by decide +kernel
theorem d_Mo_words_67 : decode (mB m_Mo_words) 67 = .ok (.aload_n 0, 1) := by decide +kernel
theorem d_Mo_words_68 : decode (mB m_Mo_words) 68 = .ok (.getfield 226, 3) := by decide +kernel
theorem d_Mo_words_71 : decode (mB m_Mo_words) 71 = .ok (.iload_n 2, 1) := by decide +kernel
theorem d_Mo_words_72 : decode (mB m_Mo_words) 72 = .ok (.iadd, 1) := by decide +kernel
theorem d_Mo_words_73 : decode (mB m_Mo_words) 73 = .ok (.aload_n 0, 1) := by decide +kernel
theorem d_Mo_words_74 : decode (mB m_Mo_words) 74 = .ok (.getfield 220, 3) := by decide +kernel
theorem d_Mo_words_77 : decode (mB m_Mo_words) 77 = .ok (.if_icmp .lt 21, 3) := by decide +kernel
theorem d_Mo_words_80 : decode (mB m_Mo_words) 80 = .ok (.aload_n 0, 1) := by decide +kernel
theorem d_Mo_words_81 : decode (mB m_Mo_words) 81 = .ok (.iconst 2, 1) := by decide +kernel
theorem d_Mo_words_82 : decode (mB m_Mo_words) 82 = .ok (.putfield 223, 3) := by decide +kernel
theorem d_Mo_words_85 : decode (mB m_Mo_words) 85 = .ok (.goto 13, 3) := by decide +kernel
theorem d_Mo_words_88 : decode (mB m_Mo_words) 88 = .ok (.aload_n 0, 1) := by decide +kernel
theorem d_Mo_words_89 : decode (mB m_Mo_words) 89 = .ok (.getfield 220, 3) := by decide +kernel
theorem d_Mo_words_92 : decode (mB m_Mo_words) 92 = .ok (.aload_n 0, 1) := by decide +kernel
theorem d_Mo_words_93 : decode (mB m_Mo_words) 93 = .ok (.getfield 226, 3) := by decide +kernel
theorem d_Mo_words_96 : decode (mB m_Mo_words) 96 = .ok (.isub, 1) := by decide +kernel
theorem d_Mo_words_97 : decode (mB m_Mo_words) 97 = .ok (.istore_n 2, 1) := by decide +kernel
theorem d_Mo_words_98 : decode (mB m_Mo_words) 98 = .ok (.aload_n 0, 1) := by decide +kernel
theorem d_Mo_words_99 : decode (mB m_Mo_words) 99 = .ok (.iload_n 2, 1) := by decide +kernel
theorem d_Mo_words_100 : decode (mB m_Mo_words) 100 = .ok (.i2l, 1) := by decide +kernel
theorem d_Mo_words_101 : decode (mB m_Mo_words) 101 = .ok (.invokevirtual 271, 3) := by decide +kernel
theorem d_Mo_words_104 : decode (mB m_Mo_words) 104 = .ok (.iconst 0, 1) := by decide +kernel
theorem d_Mo_words_105 : decode (mB m_Mo_words) 105 = .ok (.istore_n 3, 1) := by decide +kernel
theorem d_Mo_words_106 : decode (mB m_Mo_words) 106 = .ok (.iload_n 3, 1) := by decide +kernel
theorem d_Mo_words_107 : decode (mB m_Mo_words) 107 = .ok (.iload_n 2, 1) := by decide +kernel
theorem d_Mo_words_108 : decode (mB m_Mo_words) 108 = .ok (.if_icmp .ge 18, 3) := by decide +kernel
theorem d_Mo_words_111 : decode (mB m_Mo_words) 111 = .ok (.aload_n 0, 1) := by decide +kernel
theorem d_Mo_words_112 : decode (mB m_Mo_words) 112 = .ok (.aload_n 0, 1) := by decide +kernel
theorem d_Mo_words_113 : decode (mB m_Mo_words) 113 = .ok (.invokevirtual 245, 3) := by decide +kernel
theorem d_Mo_words_116 : decode (mB m_Mo_words) 116 = .ok (.i2l, 1) := by decide +kernel
theorem d_Mo_words_117 : decode (mB m_Mo_words) 117 = .ok (.invokevirtual 271, 3) := by decide +kernel
theorem d_Mo_words_120 : decode (mB m_Mo_words) 120 = .ok (.iinc 3 1, 3) := by decide +kernel
theorem d_Mo_words_123 : decode (mB m_Mo_words) 123 = .ok (.goto (-17), 3) := by decide +kernel
theorem d_Mo_words_126 : decode (mB m_Mo_words) 126 = .ok (.iload_n 1, 1) := by decide +kernel
theorem d_Mo_words_127 : decode (mB m_Mo_words) 127 = .ok (.ifCond .eq 8, 3) := by decide +kernel
theorem d_Mo_words_130 : decode (mB m_Mo_words) 130 = .ok (.aload_n 0, 1) := by decide +kernel
theorem d_Mo_words_131 : decode (mB m_Mo_words) 131 = .ok (.invokevirtual 245, 3) := by decide +kernel
theorem d_Mo_words_134 : decode (mB m_Mo_words) 134 = .ok (.istore_n 3, 1) := by decide +kernel
theorem d_Mo_words_135 : decode (mB m_Mo_words) 135 = .ok (.return_, 1) := by decide +kernel
