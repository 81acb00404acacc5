theorem d_Mo_set_0 : decode (mB m_Mo_set) 0 = .ok (.aload_n 0, 1) := by decide +kernel
theorem d_Mo_set_1 : decode (mB m_Mo_set) 1 = .ok (.iconst 0, 1) := by decide +kernel
theorem d_Mo_set_2 : decode (mB m_Mo_set) 2 = .ok (.putfield 111, 3) := by decide +kernel
theorem d_Mo_set_5 : decode (mB m_Mo_set) 5 = .ok (.iload_n 1, 1) := by decide +kernel
theorem d_Mo_set_6 : decode (mB m_Mo_set) 6 = .ok (.ifCond .lt 11, 3) := by decide +kernel
theorem d_Mo_set_9 : decode (mB m_Mo_set) 9 = .ok (.iload_n 1, 1) := by decide +kernel
theorem d_Mo_set_10 : decode (mB m_Mo_set) 10 = .ok (.aload_n 0, 1) := by decide +kernel
theorem d_Mo_set_11 : decode (mB m_Mo_set) 11 = .ok (.getfield 236, 3) := by decide +kernel
theorem d_Mo_set_14 : decode (mB m_Mo_set) 14 = .ok (.if_icmp .le 9, 3) := by decide +kernel
theorem d_Mo_set_17 : decode (mB m_Mo_set) 17 = .ok (.aload_n 0, 1) := by decide +kernel
theorem d_Mo_set_18 : decode (mB m_Mo_set) 18 = .ok (.iconst 1, 1) := by decide +kernel
theorem d_Mo_set_19 : decode (mB m_Mo_set) 19 = .ok (.invokevirtual 114, 3) := by decide +kernel
theorem d_Mo_set_22 : decode (mB m_Mo_set) 22 = .ok (.ireturn, 1) := by decide +kernel
theorem d_Mo_set_23 : decode (mB m_Mo_set) 23 = .ok (.iload_n 1, 1) := by decide +kernel
theorem d_Mo_set_24 : decode (mB m_Mo_set) 24 = .ok (.aload_n 0, 1) := by decide +kernel
theorem d_Mo_set_25 : decode (mB m_Mo_set) 25 = .ok (.getfield 236, 3) := by decide +kernel
theorem d_Mo_set_28 : decode (mB m_Mo_set) 28 = .ok (.if_icmp .ne 29, 3) := by decide +kernel
theorem d_Mo_set_31 : decode (mB m_Mo_set) 31 = .ok (.aload_n 0, 1) := by decide +kernel
theorem d_Mo_set_32 : decode (mB m_Mo_set) 32 = .ok (.getfield 236, 3) := by decide +kernel
theorem d_Mo_set_35 : decode (mB m_Mo_set) 35 = .ok (.sipush 160, 3) := by decide +kernel
theorem d_Mo_set_38 : decode (mB m_Mo_set) 38 = .ok (.if_icmp .ne 9, 3) := by decide +kernel
theorem d_Mo_set_41 : decode (mB m_Mo_set) 41 = .ok (.aload_n 0, 1) := by decide +kernel
theorem d_Mo_set_42 : decode (mB m_Mo_set) 42 = .ok (.iconst 2, 1) := by decide +kernel
theorem d_Mo_set_43 : decode (mB m_Mo_set) 43 = .ok (.invokevirtual 114, 3) := by decide +kernel
theorem d_Mo_set_46 : decode (mB m_Mo_set) 46 = .ok (.ireturn, 1) := by decide +kernel
theorem d_Mo_set_47 : decode (mB m_Mo_set) 47 = .ok (.aload_n 0, 1) := by decide +kernel
theorem d_Mo_set_48 : decode (mB m_Mo_set) 48 = .ok (.dup, 1) := by decide +kernel
theorem d_Mo_set_49 : decode (mB m_Mo_set) 49 = .ok (.getfield 236, 3) := by decide +kernel
theorem d_Mo_set_52 : decode (mB m_Mo_set) 52 = .ok (.iconst 1, 1) := by decide +kernel
theorem d_Mo_set_53 : decode (mB m_Mo_set) 53 = .ok (.iadd, 1) := by decide +kernel
theorem d_Mo_set_54 : decode (mB m_Mo_set) 54 = .ok (.putfield 236, 3) := by decide +kernel
theorem d_Mo_set_57 : decode (mB m_Mo_set) 57 = .ok (.aload_n 0, 1) := by decide +kernel
theorem d_Mo_set_58 : decode (mB m_Mo_set) 58 = .ok (.getfield 19, 3) := by decide +kernel
theorem d_Mo_set_61 : decode (mB m_Mo_set) 61 = .ok (.iload_n 1, 1) := by decide +kernel
theorem d_Mo_set_62 : decode (mB m_Mo_set) 62 = .ok (.lload_n 2, 1) := by decide +kernel
theorem d_Mo_set_63 : decode (mB m_Mo_set) 63 = .ok (.lastore, 1) := by decide +kernel
theorem d_Mo_set_64 : decode (mB m_Mo_set) 64 = .ok (.aload_n 0, 1) := by decide +kernel
theorem d_Mo_set_65 : decode (mB m_Mo_set) 65 = .ok (.getfield 236, 3) := by decide +kernel
theorem d_Mo_set_68 : decode (mB m_Mo_set) 68 = .ok (.ireturn, 1) := by decide +kernel
theorem d_Mo_drop_0 : decode (mB m_Mo_drop) 0 = .ok (.aload_n 0, 1) := by decide +kernel
theorem d_Mo_drop_1 : decode (mB m_Mo_drop) 1 = .ok (.iconst 0, 1) := by decide +kernel
theorem d_Mo_drop_2 : decode (mB m_Mo_drop) 2 = .ok (.putfield 111, 3) := by decide +kernel
theorem d_Mo_drop_5 : decode (mB m_Mo_drop) 5 = .ok (.iload_n 1, 1) := by decide +kernel
theorem d_Mo_drop_6 : decode (mB m_Mo_drop) 6 = .ok (.ifCond .lt 25, 3) := by decide +kernel
theorem d_Mo_drop_9 : decode (mB m_Mo_drop) 9 = .ok (.iload_n 2, 1) := by decide +kernel
theorem d_Mo_drop_10 : decode (mB m_Mo_drop) 10 = .ok (.ifCond .lt 21, 3) := by decide +kernel
theorem d_Mo_drop_13 : decode (mB m_Mo_drop) 13 = .ok (.iload_n 1, 1) := by decide +kernel
theorem d_Mo_drop_14 : decode (mB m_Mo_drop) 14 = .ok (.aload_n 0, 1) := by decide +kernel
theorem d_Mo_drop_15 : decode (mB m_Mo_drop) 15 = .ok (.getfield 236, 3) := by decide +kernel
theorem d_Mo_drop_18 : decode (mB m_Mo_drop) 18 = .ok (.if_icmp .gt 13, 3) := by decide +kernel
theorem d_Mo_drop_21 : decode (mB m_Mo_drop) 21 = .ok (.iload_n 2, 1) := by decide +kernel
theorem d_Mo_drop_22 : decode (mB m_Mo_drop) 22 = .ok (.aload_n 0, 1) := by decide +kernel
theorem d_Mo_drop_23 : decode (mB m_Mo_drop) 23 = .ok (.getfield 236, 3) := by decide +kernel
theorem d_Mo_drop_26 : decode (mB m_Mo_drop) 26 = .ok (.iload_n 1, 1) := by decide +kernel
theorem d_Mo_drop_27 : decode (mB m_Mo_drop) 27 = .ok (.isub, 1) := by decide +kernel
theorem d_Mo_drop_28 : decode (mB m_Mo_drop) 28 = .ok (.if_icmp .le 9, 3) := by decide +kernel
theorem d_Mo_drop_31 : decode (mB m_Mo_drop) 31 = .ok (.aload_n 0, 1) := by decide +kernel
theorem d_Mo_drop_32 : decode (mB m_Mo_drop) 32 = .ok (.iconst 1, 1) := by decide +kernel
theorem d_Mo_drop_33 : decode (mB m_Mo_drop) 33 = .ok (.invokevirtual 114, 3) := by decide +kernel
theorem d_Mo_drop_36 : decode (mB m_Mo_drop) 36 = .ok (.ireturn, 1) := by decide +kernel
theorem d_Mo_drop_37 : decode (mB m_Mo_drop) 37 = .ok (.iload_n 1, 1) := by decide +kernel
theorem d_Mo_drop_38 : decode (mB m_Mo_drop) 38 = .ok (.iload_n 2, 1) := by decide +kernel
theorem d_Mo_drop_39 : decode (mB m_Mo_drop) 39 = .ok (.iadd, 1) := by decide +kernel
theorem d_Mo_drop_40 : decode (mB m_Mo_drop) 40 = .ok (.istore_n 3, 1) := by decide +kernel
theorem d_Mo_drop_41 : decode (mB m_Mo_drop) 41 = .ok (.iload_n 3, 1) := by decide +kernel
theorem d_Mo_drop_42 : decode (mB m_Mo_drop) 42 = .ok (.aload_n 0, 1) := by decide +kernel
theorem d_Mo_drop_43 : decode (mB m_Mo_drop) 43 = .ok (.getfield 236, 3) := by decide +kernel
theorem d_Mo_drop_46 : decode (mB m_Mo_drop) 46 = .ok (.if_icmp .ge 23, 3) := by decide +kernel
theorem d_Mo_drop_49 : decode (mB m_Mo_drop) 49 = .ok (.aload_n 0, 1) := by decide +kernel
theorem d_Mo_drop_50 : decode (mB m_Mo_drop) 50 = .ok (.getfield 19, 3) := by decide +kernel
theorem d_Mo_drop_53 : decode (mB m_Mo_drop) 53 = .ok (.iload_n 3, 1) := by decide +kernel
theorem d_Mo_drop_54 : decode (mB m_Mo_drop) 54 = .ok (.iload_n 2, 1) := by decide +kernel
theorem d_Mo_drop_55 : decode (mB m_Mo_drop) 55 = .ok (.isub, 1) := by decide +kernel
theorem d_Mo_drop_56 : decode (mB m_Mo_drop) 56 = .ok (.aload_n 0, 1) := by decide +kernel
theorem d_Mo_drop_57 : decode (mB m_Mo_drop) 57 = .ok (.getfield 19, 3) := by decide +kernel
theorem d_Mo_drop_60 : decode (mB m_Mo_drop) 60 = .ok (.iload_n 3, 1) := by decide +kernel
theorem d_Mo_drop_61 : decode (mB m_Mo_drop) 61 = .ok (.laload, 1) := by decide +kernel
theorem d_Mo_drop_62 : decode (mB m_Mo_drop) 62 = .ok (.lastore, 1) := by decide +kernel
theorem d_Mo_drop_63 : decode (mB m_Mo_drop) 63 = .ok (.iinc 3 1, 3) := by decide +kernel
theorem d_Mo_drop_66 : decode (mB m_Mo_drop) 66 = .ok (.goto (-25), 3) := by decide +kernel
theorem d_Mo_drop_69 : decode (mB m_Mo_drop) 69 = .ok (.aload_n 0, 1) := by decide +kernel
theorem d_Mo_drop_70 : decode (mB m_Mo_drop) 70 = .ok (.dup, 1) := by decide +kernel
theorem d_Mo_drop_71 : decode (mB m_Mo_drop) 71 = .ok (.getfield 236, 3) := by decide +kernel
theorem d_Mo_drop_74 : decode (mB m_Mo_drop) 74 = .ok (.iload_n 2, 1) := by decide +kernel
theorem d_Mo_drop_75 : decode (mB m_Mo_drop) 75 = .ok (.isub, 1) := by decide +kernel
theorem d_Mo_drop_76 : decode (mB m_Mo_drop) 76 = .ok (.putfield 236, 3) := by decide +kernel
theorem d_Mo_drop_79 : decode (mB m_Mo_drop) 79 = .ok (.aload_n 0, 1) := by decide +kernel
theorem d_Mo_drop_80 : decode (mB m_Mo_drop) 80 = .ok (.getfield 236, 3) := by decide +kernel
theorem d_Mo_drop_83 : decode (mB m_Mo_drop) 83 = .ok (.ireturn, 1) := by decide +kernel
theorem d_Mo_byteAt_0 : decode (mB m_Mo_byteAt) 0 = .ok (.aload_n 0, 1) := by decide +kernel
theorem d_Mo_byteAt_1 : decode (mB m_Mo_byteAt) 1 = .ok (.iconst 0, 1) := by decide +kernel
theorem d_Mo_byteAt_2 : decode (mB m_Mo_byteAt) 2 = .ok (.putfield 111, 3) := by decide +kernel
theorem d_Mo_byteAt_5 : decode (mB m_Mo_byteAt) 5 = .ok (.aload_n 0, 1) := by decide +kernel
theorem d_Mo_byteAt_6 : decode (mB m_Mo_byteAt) 6 = .ok (.iload_n 1, 1) := by decide +kernel
theorem d_Mo_byteAt_7 : decode (mB m_Mo_byteAt) 7 = .ok (.aload_n 0, 1) := by decide +kernel
theorem d_Mo_byteAt_8 : decode (mB m_Mo_byteAt) 8 = .ok (.getfield 220, 3) := by decide +kernel
theorem d_Mo_byteAt_11 : decode (mB m_Mo_byteAt) 11 = .ok (.invokevirtual 318, 3) := by decide +kernel
theorem d_Mo_byteAt_14 : decode (mB m_Mo_byteAt) 14 = .ok (.ifCond .eq 11, 3) := by decide +kernel
theorem d_Mo_byteAt_17 : decode (mB m_Mo_byteAt) 17 = .ok (.aload_n 0, 1) := by decide +kernel
theorem d_Mo_byteAt_18 : decode (mB m_Mo_byteAt) 18 = .ok (.iconst 1, 1) := by decide +kernel
theorem d_Mo_byteAt_19 : decode (mB m_Mo_byteAt) 19 = .ok (.invokevirtual 114, 3) := by decide +kernel
theorem d_Mo_byteAt_22 : decode (mB m_Mo_byteAt) 22 = .ok (.goto 9, 3) := by decide +kernel
theorem d_Mo_byteAt_25 : decode (mB m_Mo_byteAt) 25 = .ok (.aload_n 0, 1) := by decide +kernel
theorem d_Mo_byteAt_26 : decode (mB m_Mo_byteAt) 26 = .ok (.getfield 16, 3) := by decide +kernel
theorem d_Mo_byteAt_29 : decode (mB m_Mo_byteAt) 29 = .ok (.iload_n 1, 1) := by decide +kernel
theorem d_Mo_byteAt_30 : decode (mB m_Mo_byteAt) 30 = .ok (.iaload, 1) := by decide +kernel
theorem d_Mo_byteAt_31 : decode (mB m_Mo_byteAt) 31 = .ok (.ireturn, 1) := by decide +kernel
theorem d_Mo_count_0 : decode (mB m_Mo_count) 0 = .ok (.aload_n 0, 1) := by decide +kernel
theorem d_Mo_count_1 : decode (mB m_Mo_count) 1 = .ok (.iconst 0, 1) := by decide +kernel
theorem d_Mo_count_2 : decode (mB m_Mo_count) 2 = .ok (.putfield 111, 3) := by decide +kernel
theorem d_Mo_count_5 : decode (mB m_Mo_count) 5 = .ok (.iload_n 1, 1) := by decide +kernel
theorem d_Mo_count_6 : decode (mB m_Mo_count) 6 = .ok (.tableswitch 76 0 5 #[38, 43, 48, 53, 58, 63], 38) := by decide +kernel
theorem d_Mo_count_44 : decode (mB m_Mo_count) 44 = .ok (.aload_n 0, 1) := by decide +kernel
theorem d_Mo_count_45 : decode (mB m_Mo_count) 45 = .ok (.getfield 118, 3) := by decide +kernel
theorem d_Mo_count_48 : decode (mB m_Mo_count) 48 = .ok (.ireturn, 1) := by decide +kernel
theorem d_Mo_count_49 : decode (mB m_Mo_count) 49 = .ok (.aload_n 0, 1) := by decide +kernel
theorem d_Mo_count_50 : decode (mB m_Mo_count) 50 = .ok (.getfield 220, 3) := by decide +kernel
theorem d_Mo_count_53 : decode (mB m_Mo_count) 53 = .ok (.ireturn, 1) := by decide +kernel
theorem d_Mo_count_54 : decode (mB m_Mo_count) 54 = .ok (.aload_n 0, 1) := by decide +kernel
theorem d_Mo_count_55 : decode (mB m_Mo_count) 55 = .ok (.getfield 236, 3) := by decide +kernel
theorem d_Mo_count_58 : decode (mB m_Mo_count) 58 = .ok (.ireturn, 1) := by decide +kernel
theorem d_Mo_count_59 : decode (mB m_Mo_count) 59 = .ok (.aload_n 0, 1) := by decide +kernel
theorem d_Mo_count_60 : decode (mB m_Mo_count) 60 = .ok (.getfield 23, 3) := by decide +kernel
theorem d_Mo_count_63 : decode (mB m_Mo_count) 63 = .ok (.ireturn, 1) := by decide +kernel
theorem d_Mo_count_64 : decode (mB m_Mo_count) 64 = .ok (.aload_n 0, 1) := by decide +kernel
theorem d_Mo_count_65 : decode (mB m_Mo_count) 65 = .ok (.getfield 27, 3) := by decide +kernel
theorem d_Mo_count_68 : decode (mB m_Mo_count) 68 = .ok (.ireturn, 1) := by decide +kernel
theorem d_Mo_count_69 : decode (mB m_Mo_count) 69 = .ok (.aload_n 0, 1) := by decide +kernel
theorem d_Mo_count_70 : decode (mB m_Mo_count) 70 = .ok (.getfield 210, 3) := by decide +kernel
theorem d_Mo_count_73 : decode (mB m_Mo_count) 73 = .ok (.ifCond .eq 7, 3) := by decide +kernel
theorem d_Mo_count_76 : decode (mB m_Mo_count) 76 = .ok (.iconst 1, 1) := by decide +kernel
theorem d_Mo_count_77 : decode (mB m_Mo_count) 77 = .ok (.goto 4, 3) := by decide +kernel
theorem d_Mo_count_80 : decode (mB m_Mo_count) 80 = .ok (.iconst 0, 1) := by decide +kernel
theorem d_Mo_count_81 : decode (mB m_Mo_count) 81 = .ok (.ireturn, 1) := by decide +kernel
theorem d_Mo_count_82 : decode (mB m_Mo_count) 82 = .ok (.aload_n 0, 1) := by decide +kernel
theorem d_Mo_count_83 : decode (mB m_Mo_count) 83 = .ok (.iconst 1, 1) := by decide +kernel
theorem d_Mo_count_84 : decode (mB m_Mo_count) 84 = .ok (.invokevirtual 114, 3) := by decide +kernel
theorem d_Mo_count_87 : decode (mB m_Mo_count) 87 = .ok (.ireturn, 1) := by decide +kernel
