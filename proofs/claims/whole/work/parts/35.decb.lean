theorem d_Fo_init_0 : decode (mB m_Fo_init) 0 = .ok (.aload_n 0, 1) := by decide +kernel
theorem d_Fo_init_1 : decode (mB m_Fo_init) 1 = .ok (.invokespecial 3, 3) := by decide +kernel
theorem d_Fo_init_4 : decode (mB m_Fo_init) 4 = .ok (.aload_n 0, 1) := by decide +kernel
theorem d_Fo_init_5 : decode (mB m_Fo_init) 5 = .ok (.bipush 90, 2) := by decide +kernel
theorem d_Fo_init_7 : decode (mB m_Fo_init) 7 = .ok (.anewarray 9, 3) := by decide +kernel
theorem d_Fo_init_10 : decode (mB m_Fo_init) 10 = .ok (.putfield 11, 3) := by decide +kernel
theorem d_Fo_init_13 : decode (mB m_Fo_init) 13 = .ok (.iconst 0, 1) := by decide +kernel
theorem d_Fo_init_14 : decode (mB m_Fo_init) 14 = .ok (.istore_n 1, 1) := by decide +kernel
theorem d_Fo_init_15 : decode (mB m_Fo_init) 15 = .ok (.iload_n 1, 1) := by decide +kernel
theorem d_Fo_init_16 : decode (mB m_Fo_init) 16 = .ok (.bipush 90, 2) := by decide +kernel
theorem d_Fo_init_18 : decode (mB m_Fo_init) 18 = .ok (.if_icmp .ge 22, 3) := by decide +kernel
theorem d_Fo_init_21 : decode (mB m_Fo_init) 21 = .ok (.aload_n 0, 1) := by decide +kernel
theorem d_Fo_init_22 : decode (mB m_Fo_init) 22 = .ok (.getfield 11, 3) := by decide +kernel
theorem d_Fo_init_25 : decode (mB m_Fo_init) 25 = .ok (.iload_n 1, 1) := by decide +kernel
theorem d_Fo_init_26 : decode (mB m_Fo_init) 26 = .ok (.new 9, 3) := by decide +kernel
theorem d_Fo_init_29 : decode (mB m_Fo_init) 29 = .ok (.dup, 1) := by decide +kernel
theorem d_Fo_init_30 : decode (mB m_Fo_init) 30 = .ok (.invokespecial 17, 3) := by decide +kernel
theorem d_Fo_init_33 : decode (mB m_Fo_init) 33 = .ok (.aastore, 1) := by decide +kernel
theorem d_Fo_init_34 : decode (mB m_Fo_init) 34 = .ok (.iinc 1 1, 3) := by decide +kernel
theorem d_Fo_init_37 : decode (mB m_Fo_init) 37 = .ok (.goto (-22), 3) := by decide +kernel
theorem d_Fo_init_40 : decode (mB m_Fo_init) 40 = .ok (.aload_n 0, 1) := by decide +kernel
theorem d_Fo_init_41 : decode (mB m_Fo_init) 41 = .ok (.iconst 0, 1) := by decide +kernel
theorem d_Fo_init_42 : decode (mB m_Fo_init) 42 = .ok (.putfield 18, 3) := by decide +kernel
theorem d_Fo_init_45 : decode (mB m_Fo_init) 45 = .ok (.return_, 1) := by decide +kernel
theorem d_Fo_forgetAll_0 : decode (mB m_Fo_forgetAll) 0 = .ok (.aload_n 0, 1) := by decide +kernel
theorem d_Fo_forgetAll_1 : decode (mB m_Fo_forgetAll) 1 = .ok (.iconst 0, 1) := by decide +kernel
theorem d_Fo_forgetAll_2 : decode (mB m_Fo_forgetAll) 2 = .ok (.putfield 18, 3) := by decide +kernel
theorem d_Fo_forgetAll_5 : decode (mB m_Fo_forgetAll) 5 = .ok (.return_, 1) := by decide +kernel
theorem d_Fo_fresh_0 : decode (mB m_Fo_fresh) 0 = .ok (.aload_n 0, 1) := by decide +kernel
theorem d_Fo_fresh_1 : decode (mB m_Fo_fresh) 1 = .ok (.getfield 18, 3) := by decide +kernel
theorem d_Fo_fresh_4 : decode (mB m_Fo_fresh) 4 = .ok (.aload_n 0, 1) := by decide +kernel
theorem d_Fo_fresh_5 : decode (mB m_Fo_fresh) 5 = .ok (.getfield 11, 3) := by decide +kernel
theorem d_Fo_fresh_8 : decode (mB m_Fo_fresh) 8 = .ok (.arraylength, 1) := by decide +kernel
theorem d_Fo_fresh_9 : decode (mB m_Fo_fresh) 9 = .ok (.if_icmp .lt 5, 3) := by decide +kernel
theorem d_Fo_fresh_12 : decode (mB m_Fo_fresh) 12 = .ok (.aconst_null, 1) := by decide +kernel
theorem d_Fo_fresh_13 : decode (mB m_Fo_fresh) 13 = .ok (.areturn, 1) := by decide +kernel
theorem d_Fo_fresh_14 : decode (mB m_Fo_fresh) 14 = .ok (.aload_n 0, 1) := by decide +kernel
theorem d_Fo_fresh_15 : decode (mB m_Fo_fresh) 15 = .ok (.getfield 11, 3) := by decide +kernel
theorem d_Fo_fresh_18 : decode (mB m_Fo_fresh) 18 = .ok (.aload_n 0, 1) := by decide +kernel
theorem d_Fo_fresh_19 : decode (mB m_Fo_fresh) 19 = .ok (.getfield 18, 3) := by decide +kernel
theorem d_Fo_fresh_22 : decode (mB m_Fo_fresh) 22 = .ok (.aaload, 1) := by decide +kernel
theorem d_Fo_fresh_23 : decode (mB m_Fo_fresh) 23 = .ok (.astore 4, 2) := by decide +kernel
theorem d_Fo_fresh_25 : decode (mB m_Fo_fresh) 25 = .ok (.aload_n 0, 1) := by decide +kernel
theorem d_Fo_fresh_26 : decode (mB m_Fo_fresh) 26 = .ok (.dup, 1) := by decide +kernel
theorem d_Fo_fresh_27 : decode (mB m_Fo_fresh) 27 = .ok (.getfield 18, 3) := by decide +kernel
theorem d_Fo_fresh_30 : decode (mB m_Fo_fresh) 30 = .ok (.iconst 1, 1) := by decide +kernel
theorem d_Fo_fresh_31 : decode (mB m_Fo_fresh) 31 = .ok (.iadd, 1) := by decide +kernel
theorem d_Fo_fresh_32 : decode (mB m_Fo_fresh) 32 = .ok (.putfield 18, 3) := by decide +kernel
theorem d_Fo_fresh_35 : decode (mB m_Fo_fresh) 35 = .ok (.aload 4, 2) := by decide +kernel
theorem d_Fo_fresh_37 : decode (mB m_Fo_fresh) 37 = .ok (.iload_n 1, 1) := by decide +kernel
theorem d_Fo_fresh_38 : decode (mB m_Fo_fresh) 38 = .ok (.aload_n 2, 1) := by decide +kernel
theorem d_Fo_fresh_39 : decode (mB m_Fo_fresh) 39 = .ok (.iload_n 3, 1) := by decide +kernel
theorem d_Fo_fresh_40 : decode (mB m_Fo_fresh) 40 = .ok (.invokevirtual 22, 3) := by decide +kernel
theorem d_Fo_fresh_43 : decode (mB m_Fo_fresh) 43 = .ok (.aload 4, 2) := by decide +kernel
theorem d_Fo_fresh_45 : decode (mB m_Fo_fresh) 45 = .ok (.areturn, 1) := by decide +kernel
theorem d_Fo_whole_0 : decode (mB m_Fo_whole) 0 = .ok (.aload_n 0, 1) := by decide +kernel
theorem d_Fo_whole_1 : decode (mB m_Fo_whole) 1 = .ok (.getfield 18, 3) := by decide +kernel
theorem d_Fo_whole_4 : decode (mB m_Fo_whole) 4 = .ok (.ifCond .le 12, 3) := by decide +kernel
theorem d_Fo_whole_7 : decode (mB m_Fo_whole) 7 = .ok (.aload_n 0, 1) := by decide +kernel
theorem d_Fo_whole_8 : decode (mB m_Fo_whole) 8 = .ok (.getfield 11, 3) := by decide +kernel
theorem d_Fo_whole_11 : decode (mB m_Fo_whole) 11 = .ok (.iconst 0, 1) := by decide +kernel
theorem d_Fo_whole_12 : decode (mB m_Fo_whole) 12 = .ok (.aaload, 1) := by decide +kernel
theorem d_Fo_whole_13 : decode (mB m_Fo_whole) 13 = .ok (.goto 4, 3) := by decide +kernel
theorem d_Fo_whole_16 : decode (mB m_Fo_whole) 16 = .ok (.aconst_null, 1) := by decide +kernel
theorem d_Fo_whole_17 : decode (mB m_Fo_whole) 17 = .ok (.areturn, 1) := by decide +kernel
theorem d_Fo_least_0 : decode (mB m_Fo_least) 0 = .ok (.aload_n 0, 1) := by decide +kernel
theorem d_Fo_least_1 : decode (mB m_Fo_least) 1 = .ok (.invokevirtual 26, 3) := by decide +kernel
theorem d_Fo_least_4 : decode (mB m_Fo_least) 4 = .ok (.astore_n 1, 1) := by decide +kernel
theorem d_Fo_least_5 : decode (mB m_Fo_least) 5 = .ok (.aload_n 1, 1) := by decide +kernel
theorem d_Fo_least_6 : decode (mB m_Fo_least) 6 = .ok (.ifnonnull 7, 3) := by decide +kernel
theorem d_Fo_least_9 : decode (mB m_Fo_least) 9 = .ok (.iconst 0, 1) := by decide +kernel
theorem d_Fo_least_10 : decode (mB m_Fo_least) 10 = .ok (.goto 8, 3) := by decide +kernel
theorem d_Fo_least_13 : decode (mB m_Fo_least) 13 = .ok (.aload_n 1, 1) := by decide +kernel
theorem d_Fo_least_14 : decode (mB m_Fo_least) 14 = .ok (.getfield 30, 3) := by decide +kernel
theorem d_Fo_least_17 : decode (mB m_Fo_least) 17 = .ok (.l2i, 1) := by decide +kernel
theorem d_Fo_least_18 : decode (mB m_Fo_least) 18 = .ok (.ireturn, 1) := by decide +kernel
theorem d_Fo_most_0 : decode (mB m_Fo_most) 0 = .ok (.aload_n 0, 1) := by decide +kernel
theorem d_Fo_most_1 : decode (mB m_Fo_most) 1 = .ok (.invokevirtual 26, 3) := by decide +kernel
theorem d_Fo_most_4 : decode (mB m_Fo_most) 4 = .ok (.astore_n 1, 1) := by decide +kernel
theorem d_Fo_most_5 : decode (mB m_Fo_most) 5 = .ok (.aload_n 1, 1) := by decide +kernel
theorem d_Fo_most_6 : decode (mB m_Fo_most) 6 = .ok (.ifnonnull 7, 3) := by decide +kernel
theorem d_Fo_most_9 : decode (mB m_Fo_most) 9 = .ok (.iconst 0, 1) := by decide +kernel
theorem d_Fo_most_10 : decode (mB m_Fo_most) 10 = .ok (.goto 8, 3) := by decide +kernel
theorem d_Fo_most_13 : decode (mB m_Fo_most) 13 = .ok (.aload_n 1, 1) := by decide +kernel
theorem d_Fo_most_14 : decode (mB m_Fo_most) 14 = .ok (.getfield 34, 3) := by decide +kernel
theorem d_Fo_most_17 : decode (mB m_Fo_most) 17 = .ok (.l2i, 1) := by decide +kernel
theorem d_Fo_most_18 : decode (mB m_Fo_most) 18 = .ok (.ireturn, 1) := by decide +kernel
theorem d_Fo_isSound_0 : decode (mB m_Fo_isSound) 0 = .ok (.iconst 0, 1) := by decide +kernel
theorem d_Fo_isSound_1 : decode (mB m_Fo_isSound) 1 = .ok (.istore_n 1, 1) := by decide +kernel
theorem d_Fo_isSound_2 : decode (mB m_Fo_isSound) 2 = .ok (.iload_n 1, 1) := by decide +kernel
theorem d_Fo_isSound_3 : decode (mB m_Fo_isSound) 3 = .ok (.aload_n 0, 1) := by decide +kernel
theorem d_Fo_isSound_4 : decode (mB m_Fo_isSound) 4 = .ok (.getfield 18, 3) := by decide +kernel
theorem d_Fo_isSound_7 : decode (mB m_Fo_isSound) 7 = .ok (.if_icmp .ge 44, 3) := by decide +kernel
theorem d_Fo_isSound_10 : decode (mB m_Fo_isSound) 10 = .ok (.aload_n 0, 1) := by decide +kernel
theorem d_Fo_isSound_11 : decode (mB m_Fo_isSound) 11 = .ok (.getfield 11, 3) := by decide +kernel
theorem d_Fo_isSound_14 : decode (mB m_Fo_isSound) 14 = .ok (.iload_n 1, 1) := by decide +kernel
theorem d_Fo_isSound_15 : decode (mB m_Fo_isSound) 15 = .ok (.aaload, 1) := by decide +kernel
theorem d_Fo_isSound_16 : decode (mB m_Fo_isSound) 16 = .ok (.astore_n 2, 1) := by decide +kernel
theorem d_Fo_isSound_17 : decode (mB m_Fo_isSound) 17 = .ok (.aload_n 2, 1) := by decide +kernel
theorem d_Fo_isSound_18 : decode (mB m_Fo_isSound) 18 = .ok (.invokestatic 37, 3) := by decide +kernel
theorem d_Fo_isSound_21 : decode (mB m_Fo_isSound) 21 = .ok (.ifCond .eq 22, 3) := by decide +kernel
theorem d_Fo_isSound_24 : decode (mB m_Fo_isSound) 24 = .ok (.aload_n 2, 1) := by decide +kernel
theorem d_Fo_isSound_25 : decode (mB m_Fo_isSound) 25 = .ok (.getfield 41, 3) := by decide +kernel
theorem d_Fo_isSound_28 : decode (mB m_Fo_isSound) 28 = .ok (.aload_n 2, 1) := by decide +kernel
theorem d_Fo_isSound_29 : decode (mB m_Fo_isSound) 29 = .ok (.getfield 44, 3) := by decide +kernel
theorem d_Fo_isSound_32 : decode (mB m_Fo_isSound) 32 = .ok (.lcmp, 1) := by decide +kernel
theorem d_Fo_isSound_33 : decode (mB m_Fo_isSound) 33 = .ok (.ifCond .gt 10, 3) := by decide +kernel
theorem d_Fo_isSound_36 : decode (mB m_Fo_isSound) 36 = .ok (.aload_n 2, 1) := by decide +kernel
theorem d_Fo_isSound_37 : decode (mB m_Fo_isSound) 37 = .ok (.invokestatic 47, 3) := by decide +kernel
theorem d_Fo_isSound_40 : decode (mB m_Fo_isSound) 40 = .ok (.ifCond .ne 5, 3) := by decide +kernel
theorem d_Fo_isSound_43 : decode (mB m_Fo_isSound) 43 = .ok (.iconst 0, 1) := by decide +kernel
theorem d_Fo_isSound_44 : decode (mB m_Fo_isSound) 44 = .ok (.ireturn, 1) := by decide +kernel
theorem d_Fo_isSound_45 : decode (mB m_Fo_isSound) 45 = .ok (.iinc 1 1, 3) := by decide +kernel
theorem d_Fo_isSound_48 : decode (mB m_Fo_isSound) 48 = .ok (.goto (-46), 3) := by decide +kernel
theorem d_Fo_isSound_51 : decode (mB m_Fo_isSound) 51 = .ok (.aload_n 0, 1) := by decide +kernel
theorem d_Fo_isSound_52 : decode (mB m_Fo_isSound) 52 = .ok (.getfield 18, 3) := by decide +kernel
theorem d_Fo_isSound_55 : decode (mB m_Fo_isSound) 55 = .ok (.iconst 1, 1) := by decide +kernel
theorem d_Fo_isSound_56 : decode (mB m_Fo_isSound) 56 = .ok (.isub, 1) := by decide +kernel
theorem d_Fo_isSound_57 : decode (mB m_Fo_isSound) 57 = .ok (.istore_n 1, 1) := by decide +kernel
theorem d_Fo_isSound_58 : decode (mB m_Fo_isSound) 58 = .ok (.iload_n 1, 1) := by decide +kernel
theorem d_Fo_isSound_59 : decode (mB m_Fo_isSound) 59 = .ok (.ifCond .lt 48, 3) := by decide +kernel
theorem d_Fo_isSound_62 : decode (mB m_Fo_isSound) 62 = .ok (.aload_n 0, 1) := by decide +kernel
theorem d_Fo_isSound_63 : decode (mB m_Fo_isSound) 63 = .ok (.getfield 11, 3) := by decide +kernel
theorem d_Fo_isSound_66 : decode (mB m_Fo_isSound) 66 = .ok (.iload_n 1, 1) := by decide +kernel
theorem d_Fo_isSound_67 : decode (mB m_Fo_isSound) 67 = .ok (.aaload, 1) := by decide +kernel
theorem d_Fo_isSound_68 : decode (mB m_Fo_isSound) 68 = .ok (.invokestatic 50, 3) := by decide +kernel
theorem d_Fo_isSound_71 : decode (mB m_Fo_isSound) 71 = .ok (.aload_n 0, 1) := by decide +kernel
theorem d_Fo_isSound_72 : decode (mB m_Fo_isSound) 72 = .ok (.getfield 11, 3) := by decide +kernel
theorem d_Fo_isSound_75 : decode (mB m_Fo_isSound) 75 = .ok (.iload_n 1, 1) := by decide +kernel
theorem d_Fo_isSound_76 : decode (mB m_Fo_isSound) 76 = .ok (.aaload, 1) := by decide +kernel
theorem d_Fo_isSound_77 : decode (mB m_Fo_isSound) 77 = .ok (.getfield 34, 3) := by decide +kernel
theorem d_Fo_isSound_80 : decode (mB m_Fo_isSound) 80 = .ok (.ldc2_w 54, 3) := by decide +kernel
theorem d_Fo_isSound_83 : decode (mB m_Fo_isSound) 83 = .ok (.lcmp, 1) := by decide +kernel
theorem d_Fo_isSound_84 : decode (mB m_Fo_isSound) 84 = .ok (.ifCond .gt 15, 3) := by decide +kernel
theorem d_Fo_isSound_87 : decode (mB m_Fo_isSound) 87 = .ok (.aload_n 0, 1) := by decide +kernel
theorem d_Fo_isSound_88 : decode (mB m_Fo_isSound) 88 = .ok (.getfield 11, 3) := by decide +kernel
theorem d_Fo_isSound_91 : decode (mB m_Fo_isSound) 91 = .ok (.iload_n 1, 1) := by decide +kernel
theorem d_Fo_isSound_92 : decode (mB m_Fo_isSound) 92 = .ok (.aaload, 1) := by decide +kernel
theorem d_Fo_isSound_93 : decode (mB m_Fo_isSound) 93 = .ok (.invokestatic 56, 3) := by decide +kernel
theorem d_Fo_isSound_96 : decode (mB m_Fo_isSound) 96 = .ok (.ifCond .ne 5, 3) := by decide +kernel
theorem d_Fo_isSound_99 : decode (mB m_Fo_isSound) 99 = .ok (.iconst 0, 1) := by decide +kernel
theorem d_Fo_isSound_100 : decode (mB m_Fo_isSound) 100 = .ok (.ireturn, 1) := by decide +kernel
theorem d_Fo_isSound_101 : decode (mB m_Fo_isSound) 101 = .ok (.iinc 1 (-1), 3) := by decide +kernel
theorem d_Fo_isSound_104 : decode (mB m_Fo_isSound) 104 = .ok (.goto (-46), 3) := by decide +kernel
theorem d_Fo_isSound_107 : decode (mB m_Fo_isSound) 107 = .ok (.iconst 1, 1) := by decide +kernel
theorem d_Fo_isSound_108 : decode (mB m_Fo_isSound) 108 = .ok (.ireturn, 1) := by decide +kernel
theorem d_Fo_isInPlace_0 : decode (mB m_Fo_isInPlace) 0 = .ok (.aload_n 0, 1) := by decide +kernel
theorem d_Fo_isInPlace_1 : decode (mB m_Fo_isInPlace) 1 = .ok (.getfield 59, 3) := by decide +kernel
theorem d_Fo_isInPlace_4 : decode (mB m_Fo_isInPlace) 4 = .ok (.bipush 112, 2) := by decide +kernel
theorem d_Fo_isInPlace_6 : decode (mB m_Fo_isInPlace) 6 = .ok (.if_icmp .ne 10, 3) := by decide +kernel
theorem d_Fo_isInPlace_9 : decode (mB m_Fo_isInPlace) 9 = .ok (.aload_n 0, 1) := by decide +kernel
theorem d_Fo_isInPlace_10 : decode (mB m_Fo_isInPlace) 10 = .ok (.bipush 123, 2) := by decide +kernel
theorem d_Fo_isInPlace_12 : decode (mB m_Fo_isInPlace) 12 = .ok (.invokevirtual 62, 3) := by decide +kernel
theorem d_Fo_isInPlace_15 : decode (mB m_Fo_isInPlace) 15 = .ok (.ireturn, 1) := by decide +kernel
theorem d_Fo_isInPlace_16 : decode (mB m_Fo_isInPlace) 16 = .ok (.aload_n 0, 1) := by decide +kernel
theorem d_Fo_isInPlace_17 : decode (mB m_Fo_isInPlace) 17 = .ok (.getfield 59, 3) := by decide +kernel
theorem d_Fo_isInPlace_20 : decode (mB m_Fo_isInPlace) 20 = .ok (.bipush 114, 2) := by decide +kernel
theorem d_Fo_isInPlace_22 : decode (mB m_Fo_isInPlace) 22 = .ok (.if_icmp .ne 17, 3) := by decide +kernel
theorem d_Fo_isInPlace_25 : decode (mB m_Fo_isInPlace) 25 = .ok (.aload_n 0, 1) := by decide +kernel
theorem d_Fo_isInPlace_26 : decode (mB m_Fo_isInPlace) 26 = .ok (.getfield 66, 3) := by decide +kernel
theorem d_Fo_isInPlace_29 : decode (mB m_Fo_isInPlace) 29 = .ok (.ifnull 10, 3) := by decide +kernel
theorem d_Fo_isInPlace_32 : decode (mB m_Fo_isInPlace) 32 = .ok (.aload_n 0, 1) := by decide +kernel
theorem d_Fo_isInPlace_33 : decode (mB m_Fo_isInPlace) 33 = .ok (.invokestatic 70, 3) := by decide +kernel
theorem d_Fo_isInPlace_36 : decode (mB m_Fo_isInPlace) 36 = .ok (.ifCond .eq 7, 3) := by decide +kernel
theorem d_Fo_isInPlace_39 : decode (mB m_Fo_isInPlace) 39 = .ok (.iconst 1, 1) := by decide +kernel
theorem d_Fo_isInPlace_40 : decode (mB m_Fo_isInPlace) 40 = .ok (.goto 4, 3) := by decide +kernel
theorem d_Fo_isInPlace_43 : decode (mB m_Fo_isInPlace) 43 = .ok (.iconst 0, 1) := by decide +kernel
theorem d_Fo_isInPlace_44 : decode (mB m_Fo_isInPlace) 44 = .ok (.ireturn, 1) := by decide +kernel
theorem d_Fo_isLastOfWhole_0 : decode (mB m_Fo_isLastOfWhole) 0 = .ok (.aload_n 0, 1) := by decide +kernel
theorem d_Fo_isLastOfWhole_1 : decode (mB m_Fo_isLastOfWhole) 1 = .ok (.bipush 123, 2) := by decide +kernel
theorem d_Fo_isLastOfWhole_3 : decode (mB m_Fo_isLastOfWhole) 3 = .ok (.invokevirtual 62, 3) := by decide +kernel
theorem d_Fo_isLastOfWhole_6 : decode (mB m_Fo_isLastOfWhole) 6 = .ok (.ifCond .eq 24, 3) := by decide +kernel
theorem d_Fo_isLastOfWhole_9 : decode (mB m_Fo_isLastOfWhole) 9 = .ok (.aload_n 0, 1) := by decide +kernel
theorem d_Fo_isLastOfWhole_10 : decode (mB m_Fo_isLastOfWhole) 10 = .ok (.getfield 66, 3) := by decide +kernel
theorem d_Fo_isLastOfWhole_13 : decode (mB m_Fo_isLastOfWhole) 13 = .ok (.getfield 66, 3) := by decide +kernel
theorem d_Fo_isLastOfWhole_16 : decode (mB m_Fo_isLastOfWhole) 16 = .ok (.ifnonnull 14, 3) := by decide +kernel
theorem d_Fo_isLastOfWhole_19 : decode (mB m_Fo_isLastOfWhole) 19 = .ok (.aload_n 0, 1) := by decide +kernel
theorem d_Fo_isLastOfWhole_20 : decode (mB m_Fo_isLastOfWhole) 20 = .ok (.getfield 73, 3) := by decide +kernel
theorem d_Fo_isLastOfWhole_23 : decode (mB m_Fo_isLastOfWhole) 23 = .ok (.ifnonnull 7, 3) := by decide +kernel
theorem d_Fo_isLastOfWhole_26 : decode (mB m_Fo_isLastOfWhole) 26 = .ok (.iconst 1, 1) := by decide +kernel
theorem d_Fo_isLastOfWhole_27 : decode (mB m_Fo_isLastOfWhole) 27 = .ok (.goto 4, 3) := by decide +kernel
theorem d_Fo_isLastOfWhole_30 : decode (mB m_Fo_isLastOfWhole) 30 = .ok (.iconst 0, 1) := by decide +kernel
theorem d_Fo_isLastOfWhole_31 : decode (mB m_Fo_isLastOfWhole) 31 = .ok (.ireturn, 1) := by decide +kernel
theorem d_Fo_findMeaning_0 : decode (mB m_Fo_findMeaning) 0 = .ok (.aload_n 0, 1) := by decide +kernel
theorem d_Fo_findMeaning_1 : decode (mB m_Fo_findMeaning) 1 = .ok (.invokevirtual 76, 3) := by decide +kernel
theorem d_Fo_findMeaning_4 : decode (mB m_Fo_findMeaning) 4 = .ok (.ifCond .ne 5, 3) := by decide +kernel
theorem d_Fo_findMeaning_7 : decode (mB m_Fo_findMeaning) 7 = .ok (.iconst 1, 1) := by decide +kernel
theorem d_Fo_findMeaning_8 : decode (mB m_Fo_findMeaning) 8 = .ok (.ireturn, 1) := by decide +kernel
theorem d_Fo_findMeaning_9 : decode (mB m_Fo_findMeaning) 9 = .ok (.aload_n 0, 1) := by decide +kernel
theorem d_Fo_findMeaning_10 : decode (mB m_Fo_findMeaning) 10 = .ok (.aload_n 0, 1) := by decide +kernel
theorem d_Fo_findMeaning_11 : decode (mB m_Fo_findMeaning) 11 = .ok (.invokestatic 80, 3) := by decide +kernel
theorem d_Fo_findMeaning_14 : decode (mB m_Fo_findMeaning) 14 = .ok (.putfield 84, 3) := by decide +kernel
theorem d_Fo_findMeaning_17 : decode (mB m_Fo_findMeaning) 17 = .ok (.aload_n 0, 1) := by decide +kernel
theorem d_Fo_findMeaning_18 : decode (mB m_Fo_findMeaning) 18 = .ok (.getfield 84, 3) := by decide +kernel
theorem d_Fo_findMeaning_21 : decode (mB m_Fo_findMeaning) 21 = .ok (.ifnonnull 5, 3) := by decide +kernel
theorem d_Fo_findMeaning_24 : decode (mB m_Fo_findMeaning) 24 = .ok (.iconst 0, 1) := by decide +kernel
theorem d_Fo_findMeaning_25 : decode (mB m_Fo_findMeaning) 25 = .ok (.ireturn, 1) := by decide +kernel
theorem d_Fo_findMeaning_26 : decode (mB m_Fo_findMeaning) 26 = .ok (.aload_n 0, 1) := by decide +kernel
theorem d_Fo_findMeaning_27 : decode (mB m_Fo_findMeaning) 27 = .ok (.getfield 59, 3) := by decide +kernel
theorem d_Fo_findMeaning_30 : decode (mB m_Fo_findMeaning) 30 = .ok (.bipush 63, 2) := by decide +kernel
theorem d_Fo_findMeaning_32 : decode (mB m_Fo_findMeaning) 32 = .ok (.if_icmp .ne 10, 3) := by decide +kernel
theorem d_Fo_findMeaning_35 : decode (mB m_Fo_findMeaning) 35 = .ok (.aload_n 0, 1) := by decide +kernel
theorem d_Fo_findMeaning_36 : decode (mB m_Fo_findMeaning) 36 = .ok (.invokestatic 87, 3) := by decide +kernel
theorem d_Fo_findMeaning_39 : decode (mB m_Fo_findMeaning) 39 = .ok (.ifCond .eq 7, 3) := by decide +kernel
theorem d_Fo_findMeaning_42 : decode (mB m_Fo_findMeaning) 42 = .ok (.iconst 1, 1) := by decide +kernel
theorem d_Fo_findMeaning_43 : decode (mB m_Fo_findMeaning) 43 = .ok (.goto 4, 3) := by decide +kernel
theorem d_Fo_findMeaning_46 : decode (mB m_Fo_findMeaning) 46 = .ok (.iconst 0, 1) := by decide +kernel
theorem d_Fo_findMeaning_47 : decode (mB m_Fo_findMeaning) 47 = .ok (.ireturn, 1) := by decide +kernel
theorem d_Fo_fieldMeantIn_0 : decode (mB m_Fo_fieldMeantIn) 0 = .ok (.aload_n 0, 1) := by decide +kernel
theorem d_Fo_fieldMeantIn_1 : decode (mB m_Fo_fieldMeantIn) 1 = .ok (.astore_n 1, 1) := by decide +kernel
theorem d_Fo_fieldMeantIn_2 : decode (mB m_Fo_fieldMeantIn) 2 = .ok (.aload_n 1, 1) := by decide +kernel
theorem d_Fo_fieldMeantIn_3 : decode (mB m_Fo_fieldMeantIn) 3 = .ok (.ifnull 35, 3) := by decide +kernel
theorem d_Fo_fieldMeantIn_6 : decode (mB m_Fo_fieldMeantIn) 6 = .ok (.aload_n 1, 1) := by decide +kernel
theorem d_Fo_fieldMeantIn_7 : decode (mB m_Fo_fieldMeantIn) 7 = .ok (.bipush 123, 2) := by decide +kernel
theorem d_Fo_fieldMeantIn_9 : decode (mB m_Fo_fieldMeantIn) 9 = .ok (.invokevirtual 62, 3) := by decide +kernel
theorem d_Fo_fieldMeantIn_12 : decode (mB m_Fo_fieldMeantIn) 12 = .ok (.ifCond .eq 18, 3) := by decide +kernel
theorem d_Fo_fieldMeantIn_15 : decode (mB m_Fo_fieldMeantIn) 15 = .ok (.aload_n 1, 1) := by decide +kernel
theorem d_Fo_fieldMeantIn_16 : decode (mB m_Fo_fieldMeantIn) 16 = .ok (.aload_n 0, 1) := by decide +kernel
theorem d_Fo_fieldMeantIn_17 : decode (mB m_Fo_fieldMeantIn) 17 = .ok (.getfield 90, 3) := by decide +kernel
theorem d_Fo_fieldMeantIn_20 : decode (mB m_Fo_fieldMeantIn) 20 = .ok (.invokestatic 93, 3) := by decide +kernel
theorem d_Fo_fieldMeantIn_23 : decode (mB m_Fo_fieldMeantIn) 23 = .ok (.astore_n 2, 1) := by decide +kernel
theorem d_Fo_fieldMeantIn_24 : decode (mB m_Fo_fieldMeantIn) 24 = .ok (.aload_n 2, 1) := by decide +kernel
theorem d_Fo_fieldMeantIn_25 : decode (mB m_Fo_fieldMeantIn) 25 = .ok (.ifnull 5, 3) := by decide +kernel
theorem d_Fo_fieldMeantIn_28 : decode (mB m_Fo_fieldMeantIn) 28 = .ok (.aload_n 2, 1) := by decide +kernel
theorem d_Fo_fieldMeantIn_29 : decode (mB m_Fo_fieldMeantIn) 29 = .ok (.areturn, 1) := by decide +kernel
theorem d_Fo_fieldMeantIn_30 : decode (mB m_Fo_fieldMeantIn) 30 = .ok (.aload_n 1, 1) := by decide +kernel
theorem d_Fo_fieldMeantIn_31 : decode (mB m_Fo_fieldMeantIn) 31 = .ok (.getfield 66, 3) := by decide +kernel
theorem d_Fo_fieldMeantIn_34 : decode (mB m_Fo_fieldMeantIn) 34 = .ok (.astore_n 1, 1) := by decide +kernel
theorem d_Fo_fieldMeantIn_35 : decode (mB m_Fo_fieldMeantIn) 35 = .ok (.goto (-33), 3) := by decide +kernel
theorem d_Fo_fieldMeantIn_38 : decode (mB m_Fo_fieldMeantIn) 38 = .ok (.aconst_null, 1) := by decide +kernel
theorem d_Fo_fieldMeantIn_39 : decode (mB m_Fo_fieldMeantIn) 39 = .ok (.areturn, 1) := by decide +kernel
theorem d_Fo_latestBefore_0 : decode (mB m_Fo_latestBefore) 0 = .ok (.aload_n 0, 1) := by decide +kernel
theorem d_Fo_latestBefore_1 : decode (mB m_Fo_latestBefore) 1 = .ok (.getfield 97, 3) := by decide +kernel
theorem d_Fo_latestBefore_4 : decode (mB m_Fo_latestBefore) 4 = .ok (.astore_n 2, 1) := by decide +kernel
theorem d_Fo_latestBefore_5 : decode (mB m_Fo_latestBefore) 5 = .ok (.aload_n 2, 1) := by decide +kernel
theorem d_Fo_latestBefore_6 : decode (mB m_Fo_latestBefore) 6 = .ok (.ifnull 28, 3) := by decide +kernel
theorem d_Fo_latestBefore_9 : decode (mB m_Fo_latestBefore) 9 = .ok (.aload_n 2, 1) := by decide +kernel
theorem d_Fo_latestBefore_10 : decode (mB m_Fo_latestBefore) 10 = .ok (.getfield 100, 3) := by decide +kernel
theorem d_Fo_latestBefore_13 : decode (mB m_Fo_latestBefore) 13 = .ok (.iload_n 1, 1) := by decide +kernel
theorem d_Fo_latestBefore_14 : decode (mB m_Fo_latestBefore) 14 = .ok (.if_icmp .ne 12, 3) := by decide +kernel
theorem d_Fo_latestBefore_17 : decode (mB m_Fo_latestBefore) 17 = .ok (.aload_n 2, 1) := by decide +kernel
theorem d_Fo_latestBefore_18 : decode (mB m_Fo_latestBefore) 18 = .ok (.invokevirtual 103, 3) := by decide +kernel
theorem d_Fo_latestBefore_21 : decode (mB m_Fo_latestBefore) 21 = .ok (.ifCond .eq 5, 3) := by decide +kernel
theorem d_Fo_latestBefore_24 : decode (mB m_Fo_latestBefore) 24 = .ok (.aload_n 2, 1) := by decide +kernel
theorem d_Fo_latestBefore_25 : decode (mB m_Fo_latestBefore) 25 = .ok (.areturn, 1) := by decide +kernel
theorem d_Fo_latestBefore_26 : decode (mB m_Fo_latestBefore) 26 = .ok (.aload_n 2, 1) := by decide +kernel
theorem d_Fo_latestBefore_27 : decode (mB m_Fo_latestBefore) 27 = .ok (.getfield 97, 3) := by decide +kernel
theorem d_Fo_latestBefore_30 : decode (mB m_Fo_latestBefore) 30 = .ok (.astore_n 2, 1) := by decide +kernel
theorem d_Fo_latestBefore_31 : decode (mB m_Fo_latestBefore) 31 = .ok (.goto (-26), 3) := by decide +kernel
theorem d_Fo_latestBefore_34 : decode (mB m_Fo_latestBefore) 34 = .ok (.aconst_null, 1) := by decide +kernel
theorem d_Fo_latestBefore_35 : decode (mB m_Fo_latestBefore) 35 = .ok (.areturn, 1) := by decide +kernel
theorem d_Fo_hasGoodFigures_0 : decode (mB m_Fo_hasGoodFigures) 0 = .ok (.aload_n 0, 1) := by decide +kernel
theorem d_Fo_hasGoodFigures_1 : decode (mB m_Fo_hasGoodFigures) 1 = .ok (.getfield 106, 3) := by decide +kernel
theorem d_Fo_hasGoodFigures_4 : decode (mB m_Fo_hasGoodFigures) 4 = .ok (.astore_n 1, 1) := by decide +kernel
theorem d_Fo_hasGoodFigures_5 : decode (mB m_Fo_hasGoodFigures) 5 = .ok (.aload_n 1, 1) := by decide +kernel
theorem d_Fo_hasGoodFigures_6 : decode (mB m_Fo_hasGoodFigures) 6 = .ok (.ifnull 65, 3) := by decide +kernel
theorem d_Fo_hasGoodFigures_9 : decode (mB m_Fo_hasGoodFigures) 9 = .ok (.aload_n 0, 1) := by decide +kernel
theorem d_Fo_hasGoodFigures_10 : decode (mB m_Fo_hasGoodFigures) 10 = .ok (.getfield 84, 3) := by decide +kernel
theorem d_Fo_hasGoodFigures_13 : decode (mB m_Fo_hasGoodFigures) 13 = .ok (.ifnull 18, 3) := by decide +kernel
theorem d_Fo_hasGoodFigures_16 : decode (mB m_Fo_hasGoodFigures) 16 = .ok (.aload_n 0, 1) := by decide +kernel
theorem d_Fo_hasGoodFigures_17 : decode (mB m_Fo_hasGoodFigures) 17 = .ok (.getfield 84, 3) := by decide +kernel
theorem d_Fo_hasGoodFigures_20 : decode (mB m_Fo_hasGoodFigures) 20 = .ok (.aload_n 1, 1) := by decide +kernel
theorem d_Fo_hasGoodFigures_21 : decode (mB m_Fo_hasGoodFigures) 21 = .ok (.getfield 109, 3) := by decide +kernel
theorem d_Fo_hasGoodFigures_24 : decode (mB m_Fo_hasGoodFigures) 24 = .ok (.i2l, 1) := by decide +kernel
theorem d_Fo_hasGoodFigures_25 : decode (mB m_Fo_hasGoodFigures) 25 = .ok (.invokevirtual 112, 3) := by decide +kernel
theorem d_Fo_hasGoodFigures_28 : decode (mB m_Fo_hasGoodFigures) 28 = .ok (.ifCond .ne 5, 3) := by decide +kernel
theorem d_Fo_hasGoodFigures_31 : decode (mB m_Fo_hasGoodFigures) 31 = .ok (.iconst 0, 1) := by decide +kernel
theorem d_Fo_hasGoodFigures_32 : decode (mB m_Fo_hasGoodFigures) 32 = .ok (.ireturn, 1) := by decide +kernel
theorem d_Fo_hasGoodFigures_33 : decode (mB m_Fo_hasGoodFigures) 33 = .ok (.aload_n 1, 1) := by decide +kernel
theorem d_Fo_hasGoodFigures_34 : decode (mB m_Fo_hasGoodFigures) 34 = .ok (.getfield 97, 3) := by decide +kernel
theorem d_Fo_hasGoodFigures_37 : decode (mB m_Fo_hasGoodFigures) 37 = .ok (.astore_n 2, 1) := by decide +kernel
theorem d_Fo_hasGoodFigures_38 : decode (mB m_Fo_hasGoodFigures) 38 = .ok (.aload_n 2, 1) := by decide +kernel
theorem d_Fo_hasGoodFigures_39 : decode (mB m_Fo_hasGoodFigures) 39 = .ok (.ifnull 24, 3) := by decide +kernel
theorem d_Fo_hasGoodFigures_42 : decode (mB m_Fo_hasGoodFigures) 42 = .ok (.aload_n 2, 1) := by decide +kernel
theorem d_Fo_hasGoodFigures_43 : decode (mB m_Fo_hasGoodFigures) 43 = .ok (.getfield 109, 3) := by decide +kernel
theorem d_Fo_hasGoodFigures_46 : decode (mB m_Fo_hasGoodFigures) 46 = .ok (.aload_n 1, 1) := by decide +kernel
theorem d_Fo_hasGoodFigures_47 : decode (mB m_Fo_hasGoodFigures) 47 = .ok (.getfield 109, 3) := by decide +kernel
theorem d_Fo_hasGoodFigures_50 : decode (mB m_Fo_hasGoodFigures) 50 = .ok (.if_icmp .ne 5, 3) := by decide +kernel
theorem d_Fo_hasGoodFigures_53 : decode (mB m_Fo_hasGoodFigures) 53 = .ok (.iconst 0, 1) := by decide +kernel
theorem d_Fo_hasGoodFigures_54 : decode (mB m_Fo_hasGoodFigures) 54 = .ok (.ireturn, 1) := by decide +kernel
theorem d_Fo_hasGoodFigures_55 : decode (mB m_Fo_hasGoodFigures) 55 = .ok (.aload_n 2, 1) := by decide +kernel
theorem d_Fo_hasGoodFigures_56 : decode (mB m_Fo_hasGoodFigures) 56 = .ok (.getfield 97, 3) := by decide +kernel
theorem d_Fo_hasGoodFigures_59 : decode (mB m_Fo_hasGoodFigures) 59 = .ok (.astore_n 2, 1) := by decide +kernel
theorem d_Fo_hasGoodFigures_60 : decode (mB m_Fo_hasGoodFigures) 60 = .ok (.goto (-22), 3) := by decide +kernel
theorem d_Fo_hasGoodFigures_63 : decode (mB m_Fo_hasGoodFigures) 63 = .ok (.aload_n 1, 1) := by decide +kernel
theorem d_Fo_hasGoodFigures_64 : decode (mB m_Fo_hasGoodFigures) 64 = .ok (.getfield 73, 3) := by decide +kernel
theorem d_Fo_hasGoodFigures_67 : decode (mB m_Fo_hasGoodFigures) 67 = .ok (.astore_n 1, 1) := by decide +kernel
theorem d_Fo_hasGoodFigures_68 : decode (mB m_Fo_hasGoodFigures) 68 = .ok (.goto (-63), 3) := by decide +kernel
theorem d_Fo_hasGoodFigures_71 : decode (mB m_Fo_hasGoodFigures) 71 = .ok (.iconst 1, 1) := by decide +kernel
theorem d_Fo_hasGoodFigures_72 : decode (mB m_Fo_hasGoodFigures) 72 = .ok (.ireturn, 1) := by decide +kernel
theorem d_Fo_measure_0 : decode (mB m_Fo_measure) 0 = .ok (.aload_n 0, 1) := by decide +kernel
theorem d_Fo_measure_1 : decode (mB m_Fo_measure) 1 = .ok (.getfield 59, 3) := by decide +kernel
theorem d_Fo_measure_4 : decode (mB m_Fo_measure) 4 = .ok (.lookupswitch 111 #[(42, 67), (47, 67), (63, 74), (114, 96), (122, 81), (123, 60)], 60) := by decide +kernel
theorem d_Fo_measure_64 : decode (mB m_Fo_measure) 64 = .ok (.aload_n 0, 1) := by decide +kernel
theorem d_Fo_measure_65 : decode (mB m_Fo_measure) 65 = .ok (.invokestatic 116, 3) := by decide +kernel
theorem d_Fo_measure_68 : decode (mB m_Fo_measure) 68 = .ok (.goto 65, 3) := by decide +kernel
theorem d_Fo_measure_71 : decode (mB m_Fo_measure) 71 = .ok (.aload_n 0, 1) := by decide +kernel
theorem d_Fo_measure_72 : decode (mB m_Fo_measure) 72 = .ok (.invokestatic 119, 3) := by decide +kernel
theorem d_Fo_measure_75 : decode (mB m_Fo_measure) 75 = .ok (.goto 58, 3) := by decide +kernel
theorem d_Fo_measure_78 : decode (mB m_Fo_measure) 78 = .ok (.aload_n 0, 1) := by decide +kernel
theorem d_Fo_measure_79 : decode (mB m_Fo_measure) 79 = .ok (.invokestatic 122, 3) := by decide +kernel
theorem d_Fo_measure_82 : decode (mB m_Fo_measure) 82 = .ok (.goto 51, 3) := by decide +kernel
theorem d_Fo_measure_85 : decode (mB m_Fo_measure) 85 = .ok (.aload_n 0, 1) := by decide +kernel
theorem d_Fo_measure_86 : decode (mB m_Fo_measure) 86 = .ok (.lconst 1, 1) := by decide +kernel
theorem d_Fo_measure_87 : decode (mB m_Fo_measure) 87 = .ok (.putfield 30, 3) := by decide +kernel
theorem d_Fo_measure_90 : decode (mB m_Fo_measure) 90 = .ok (.aload_n 0, 1) := by decide +kernel
theorem d_Fo_measure_91 : decode (mB m_Fo_measure) 91 = .ok (.ldc2_w 125, 3) := by decide +kernel
theorem d_Fo_measure_94 : decode (mB m_Fo_measure) 94 = .ok (.putfield 34, 3) := by decide +kernel
theorem d_Fo_measure_97 : decode (mB m_Fo_measure) 97 = .ok (.goto 36, 3) := by decide +kernel
theorem d_Fo_measure_100 : decode (mB m_Fo_measure) 100 = .ok (.aload_n 0, 1) := by decide +kernel
theorem d_Fo_measure_101 : decode (mB m_Fo_measure) 101 = .ok (.lconst 0, 1) := by decide +kernel
theorem d_Fo_measure_102 : decode (mB m_Fo_measure) 102 = .ok (.putfield 30, 3) := by decide +kernel
theorem d_Fo_measure_105 : decode (mB m_Fo_measure) 105 = .ok (.aload_n 0, 1) := by decide +kernel
theorem d_Fo_measure_106 : decode (mB m_Fo_measure) 106 = .ok (.ldc2_w 127, 3) := by decide +kernel
theorem d_Fo_measure_109 : decode (mB m_Fo_measure) 109 = .ok (.putfield 34, 3) := by decide +kernel
theorem d_Fo_measure_112 : decode (mB m_Fo_measure) 112 = .ok (.goto 21, 3) := by decide +kernel
theorem d_Fo_measure_115 : decode (mB m_Fo_measure) 115 = .ok (.aload_n 0, 1) := by decide +kernel
theorem d_Fo_measure_116 : decode (mB m_Fo_measure) 116 = .ok (.aload_n 0, 1) := by decide +kernel
theorem d_Fo_measure_117 : decode (mB m_Fo_measure) 117 = .ok (.getfield 129, 3) := by decide +kernel
theorem d_Fo_measure_120 : decode (mB m_Fo_measure) 120 = .ok (.i2l, 1) := by decide +kernel
theorem d_Fo_measure_121 : decode (mB m_Fo_measure) 121 = .ok (.putfield 30, 3) := by decide +kernel
theorem d_Fo_measure_124 : decode (mB m_Fo_measure) 124 = .ok (.aload_n 0, 1) := by decide +kernel
theorem d_Fo_measure_125 : decode (mB m_Fo_measure) 125 = .ok (.aload_n 0, 1) := by decide +kernel
theorem d_Fo_measure_126 : decode (mB m_Fo_measure) 126 = .ok (.getfield 129, 3) := by decide +kernel
theorem d_Fo_measure_129 : decode (mB m_Fo_measure) 129 = .ok (.i2l, 1) := by decide +kernel
theorem d_Fo_measure_130 : decode (mB m_Fo_measure) 130 = .ok (.putfield 34, 3) := by decide +kernel
theorem d_Fo_measure_133 : decode (mB m_Fo_measure) 133 = .ok (.return_, 1) := by decide +kernel
theorem d_Fo_measureStructure_0 : decode (mB m_Fo_measureStructure) 0 = .ok (.lconst 0, 1) := by decide +kernel
theorem d_Fo_measureStructure_1 : decode (mB m_Fo_measureStructure) 1 = .ok (.lstore_n 1, 1) := by decide +kernel
theorem d_Fo_measureStructure_2 : decode (mB m_Fo_measureStructure) 2 = .ok (.lconst 0, 1) := by decide +kernel
theorem d_Fo_measureStructure_3 : decode (mB m_Fo_measureStructure) 3 = .ok (.lstore_n 3, 1) := by decide +kernel
theorem d_Fo_measureStructure_4 : decode (mB m_Fo_measureStructure) 4 = .ok (.iconst 0, 1) := by decide +kernel
theorem d_Fo_measureStructure_5 : decode (mB m_Fo_measureStructure) 5 = .ok (.istore 5, 2) := by decide +kernel
theorem d_Fo_measureStructure_7 : decode (mB m_Fo_measureStructure) 7 = .ok (.aload_n 0, 1) := by decide +kernel
theorem d_Fo_measureStructure_8 : decode (mB m_Fo_measureStructure) 8 = .ok (.getfield 106, 3) := by decide +kernel
theorem d_Fo_measureStructure_11 : decode (mB m_Fo_measureStructure) 11 = .ok (.astore 6, 2) := by decide +kernel
theorem d_Fo_measureStructure_13 : decode (mB m_Fo_measureStructure) 13 = .ok (.aload 6, 2) := by decide +kernel
theorem d_Fo_measureStructure_15 : decode (mB m_Fo_measureStructure) 15 = .ok (.ifnull 69, 3) := by decide +kernel
theorem d_Fo_measureStructure_18 : decode (mB m_Fo_measureStructure) 18 = .ok (.aload 6, 2) := by decide +kernel
theorem d_Fo_measureStructure_20 : decode (mB m_Fo_measureStructure) 20 = .ok (.getfield 59, 3) := by decide +kernel
theorem d_Fo_measureStructure_23 : decode (mB m_Fo_measureStructure) 23 = .ok (.bipush 112, 2) := by decide +kernel
theorem d_Fo_measureStructure_25 : decode (mB m_Fo_measureStructure) 25 = .ok (.if_icmp .ne 16, 3) := by decide +kernel
theorem d_Fo_measureStructure_28 : decode (mB m_Fo_measureStructure) 28 = .ok (.iload 5, 2) := by decide +kernel
theorem d_Fo_measureStructure_30 : decode (mB m_Fo_measureStructure) 30 = .ok (.aload 6, 2) := by decide +kernel
theorem d_Fo_measureStructure_32 : decode (mB m_Fo_measureStructure) 32 = .ok (.getfield 129, 3) := by decide +kernel
theorem d_Fo_measureStructure_35 : decode (mB m_Fo_measureStructure) 35 = .ok (.iadd, 1) := by decide +kernel
theorem d_Fo_measureStructure_36 : decode (mB m_Fo_measureStructure) 36 = .ok (.istore 5, 2) := by decide +kernel
theorem d_Fo_measureStructure_38 : decode (mB m_Fo_measureStructure) 38 = .ok (.goto 36, 3) := by decide +kernel
theorem d_Fo_measureStructure_41 : decode (mB m_Fo_measureStructure) 41 = .ok (.lload_n 1, 1) := by decide +kernel
theorem d_Fo_measureStructure_42 : decode (mB m_Fo_measureStructure) 42 = .ok (.iload 5, 2) := by decide +kernel
theorem d_Fo_measureStructure_44 : decode (mB m_Fo_measureStructure) 44 = .ok (.invokestatic 132, 3) := by decide +kernel
theorem d_Fo_measureStructure_47 : decode (mB m_Fo_measureStructure) 47 = .ok (.i2l, 1) := by decide +kernel
theorem d_Fo_measureStructure_48 : decode (mB m_Fo_measureStructure) 48 = .ok (.aload 6, 2) := by decide +kernel
theorem d_Fo_measureStructure_50 : decode (mB m_Fo_measureStructure) 50 = .ok (.getfield 30, 3) := by decide +kernel
theorem d_Fo_measureStructure_53 : decode (mB m_Fo_measureStructure) 53 = .ok (.ladd, 1) := by decide +kernel
theorem d_Fo_measureStructure_54 : decode (mB m_Fo_measureStructure) 54 = .ok (.ladd, 1) := by decide +kernel
theorem d_Fo_measureStructure_55 : decode (mB m_Fo_measureStructure) 55 = .ok (.lstore_n 1, 1) := by decide +kernel
theorem d_Fo_measureStructure_56 : decode (mB m_Fo_measureStructure) 56 = .ok (.lload_n 3, 1) := by decide +kernel
theorem d_Fo_measureStructure_57 : decode (mB m_Fo_measureStructure) 57 = .ok (.iload 5, 2) := by decide +kernel
theorem d_Fo_measureStructure_59 : decode (mB m_Fo_measureStructure) 59 = .ok (.invokestatic 132, 3) := by decide +kernel
theorem d_Fo_measureStructure_62 : decode (mB m_Fo_measureStructure) 62 = .ok (.i2l, 1) := by decide +kernel
theorem d_Fo_measureStructure_63 : decode (mB m_Fo_measureStructure) 63 = .ok (.aload 6, 2) := by decide +kernel
theorem d_Fo_measureStructure_65 : decode (mB m_Fo_measureStructure) 65 = .ok (.getfield 34, 3) := by decide +kernel
theorem d_Fo_measureStructure_68 : decode (mB m_Fo_measureStructure) 68 = .ok (.ladd, 1) := by decide +kernel
theorem d_Fo_measureStructure_69 : decode (mB m_Fo_measureStructure) 69 = .ok (.ladd, 1) := by decide +kernel
theorem d_Fo_measureStructure_70 : decode (mB m_Fo_measureStructure) 70 = .ok (.lstore_n 3, 1) := by decide +kernel
theorem d_Fo_measureStructure_71 : decode (mB m_Fo_measureStructure) 71 = .ok (.iconst 0, 1) := by decide +kernel
theorem d_Fo_measureStructure_72 : decode (mB m_Fo_measureStructure) 72 = .ok (.istore 5, 2) := by decide +kernel
theorem d_Fo_measureStructure_74 : decode (mB m_Fo_measureStructure) 74 = .ok (.aload 6, 2) := by decide +kernel
theorem d_Fo_measureStructure_76 : decode (mB m_Fo_measureStructure) 76 = .ok (.getfield 73, 3) := by decide +kernel
theorem d_Fo_measureStructure_79 : decode (mB m_Fo_measureStructure) 79 = .ok (.astore 6, 2) := by decide +kernel
theorem d_Fo_measureStructure_81 : decode (mB m_Fo_measureStructure) 81 = .ok (.goto (-68), 3) := by decide +kernel
theorem d_Fo_measureStructure_84 : decode (mB m_Fo_measureStructure) 84 = .ok (.aload_n 0, 1) := by decide +kernel
theorem d_Fo_measureStructure_85 : decode (mB m_Fo_measureStructure) 85 = .ok (.lload_n 1, 1) := by decide +kernel
theorem d_Fo_measureStructure_86 : decode (mB m_Fo_measureStructure) 86 = .ok (.iload 5, 2) := by decide +kernel
theorem d_Fo_measureStructure_88 : decode (mB m_Fo_measureStructure) 88 = .ok (.invokestatic 132, 3) := by decide +kernel
theorem d_Fo_measureStructure_91 : decode (mB m_Fo_measureStructure) 91 = .ok (.i2l, 1) := by decide +kernel
theorem d_Fo_measureStructure_92 : decode (mB m_Fo_measureStructure) 92 = .ok (.ladd, 1) := by decide +kernel
theorem d_Fo_measureStructure_93 : decode (mB m_Fo_measureStructure) 93 = .ok (.putfield 30, 3) := by decide +kernel
theorem d_Fo_measureStructure_96 : decode (mB m_Fo_measureStructure) 96 = .ok (.aload_n 0, 1) := by decide +kernel
theorem d_Fo_measureStructure_97 : decode (mB m_Fo_measureStructure) 97 = .ok (.lload_n 3, 1) := by decide +kernel
theorem d_Fo_measureStructure_98 : decode (mB m_Fo_measureStructure) 98 = .ok (.iload 5, 2) := by decide +kernel
theorem d_Fo_measureStructure_100 : decode (mB m_Fo_measureStructure) 100 = .ok (.invokestatic 132, 3) := by decide +kernel
theorem d_Fo_measureStructure_103 : decode (mB m_Fo_measureStructure) 103 = .ok (.i2l, 1) := by decide +kernel
theorem d_Fo_measureStructure_104 : decode (mB m_Fo_measureStructure) 104 = .ok (.ladd, 1) := by decide +kernel
theorem d_Fo_measureStructure_105 : decode (mB m_Fo_measureStructure) 105 = .ok (.putfield 34, 3) := by decide +kernel
theorem d_Fo_measureStructure_108 : decode (mB m_Fo_measureStructure) 108 = .ok (.return_, 1) := by decide +kernel
theorem d_Fo_bytesFor_0 : decode (mB m_Fo_bytesFor) 0 = .ok (.iload_n 0, 1) := by decide +kernel
theorem d_Fo_bytesFor_1 : decode (mB m_Fo_bytesFor) 1 = .ok (.bipush 7, 2) := by decide +kernel
theorem d_Fo_bytesFor_3 : decode (mB m_Fo_bytesFor) 3 = .ok (.iadd, 1) := by decide +kernel
theorem d_Fo_bytesFor_4 : decode (mB m_Fo_bytesFor) 4 = .ok (.bipush 8, 2) := by decide +kernel
theorem d_Fo_bytesFor_6 : decode (mB m_Fo_bytesFor) 6 = .ok (.idiv, 1) := by decide +kernel
theorem d_Fo_bytesFor_7 : decode (mB m_Fo_bytesFor) 7 = .ok (.ireturn, 1) := by decide +kernel
theorem d_Fo_measureArray_0 : decode (mB m_Fo_measureArray) 0 = .ok (.aload_n 0, 1) := by decide +kernel
theorem d_Fo_measureArray_1 : decode (mB m_Fo_measureArray) 1 = .ok (.getfield 106, 3) := by decide +kernel
theorem d_Fo_measureArray_4 : decode (mB m_Fo_measureArray) 4 = .ok (.astore_n 1, 1) := by decide +kernel
theorem d_Fo_measureArray_5 : decode (mB m_Fo_measureArray) 5 = .ok (.aload_n 0, 1) := by decide +kernel
theorem d_Fo_measureArray_6 : decode (mB m_Fo_measureArray) 6 = .ok (.getfield 84, 3) := by decide +kernel
theorem d_Fo_measureArray_9 : decode (mB m_Fo_measureArray) 9 = .ok (.astore_n 2, 1) := by decide +kernel
theorem d_Fo_measureArray_10 : decode (mB m_Fo_measureArray) 10 = .ok (.aload_n 1, 1) := by decide +kernel
theorem d_Fo_measureArray_11 : decode (mB m_Fo_measureArray) 11 = .ok (.ifnull 7, 3) := by decide +kernel
theorem d_Fo_measureArray_14 : decode (mB m_Fo_measureArray) 14 = .ok (.aload_n 2, 1) := by decide +kernel
theorem d_Fo_measureArray_15 : decode (mB m_Fo_measureArray) 15 = .ok (.ifnonnull 4, 3) := by decide +kernel
theorem d_Fo_measureArray_18 : decode (mB m_Fo_measureArray) 18 = .ok (.return_, 1) := by decide +kernel
theorem d_Fo_measureArray_19 : decode (mB m_Fo_measureArray) 19 = .ok (.aload_n 0, 1) := by decide +kernel
theorem d_Fo_measureArray_20 : decode (mB m_Fo_measureArray) 20 = .ok (.aload_n 2, 1) := by decide +kernel
theorem d_Fo_measureArray_21 : decode (mB m_Fo_measureArray) 21 = .ok (.getfield 41, 3) := by decide +kernel
theorem d_Fo_measureArray_24 : decode (mB m_Fo_measureArray) 24 = .ok (.lconst 0, 1) := by decide +kernel
theorem d_Fo_measureArray_25 : decode (mB m_Fo_measureArray) 25 = .ok (.invokestatic 136, 3) := by decide +kernel
theorem d_Fo_measureArray_28 : decode (mB m_Fo_measureArray) 28 = .ok (.aload_n 0, 1) := by decide +kernel
theorem d_Fo_measureArray_29 : decode (mB m_Fo_measureArray) 29 = .ok (.getfield 59, 3) := by decide +kernel
theorem d_Fo_measureArray_32 : decode (mB m_Fo_measureArray) 32 = .ok (.bipush 47, 2) := by decide +kernel
theorem d_Fo_measureArray_34 : decode (mB m_Fo_measureArray) 34 = .ok (.if_icmp .ne 7, 3) := by decide +kernel
theorem d_Fo_measureArray_37 : decode (mB m_Fo_measureArray) 37 = .ok (.lconst 1, 1) := by decide +kernel
theorem d_Fo_measureArray_38 : decode (mB m_Fo_measureArray) 38 = .ok (.goto 7, 3) := by decide +kernel
theorem d_Fo_measureArray_41 : decode (mB m_Fo_measureArray) 41 = .ok (.aload_n 1, 1) := by decide +kernel
theorem d_Fo_measureArray_42 : decode (mB m_Fo_measureArray) 42 = .ok (.getfield 30, 3) := by decide +kernel
theorem d_Fo_measureArray_45 : decode (mB m_Fo_measureArray) 45 = .ok (.lmul, 1) := by decide +kernel
theorem d_Fo_measureArray_46 : decode (mB m_Fo_measureArray) 46 = .ok (.putfield 30, 3) := by decide +kernel
theorem d_Fo_measureArray_49 : decode (mB m_Fo_measureArray) 49 = .ok (.aload_n 0, 1) := by decide +kernel
theorem d_Fo_measureArray_50 : decode (mB m_Fo_measureArray) 50 = .ok (.aload_n 2, 1) := by decide +kernel
theorem d_Fo_measureArray_51 : decode (mB m_Fo_measureArray) 51 = .ok (.getfield 44, 3) := by decide +kernel
theorem d_Fo_measureArray_54 : decode (mB m_Fo_measureArray) 54 = .ok (.lconst 0, 1) := by decide +kernel
theorem d_Fo_measureArray_55 : decode (mB m_Fo_measureArray) 55 = .ok (.invokestatic 136, 3) := by decide +kernel
theorem d_Fo_measureArray_58 : decode (mB m_Fo_measureArray) 58 = .ok (.aload_n 0, 1) := by decide +kernel
theorem d_Fo_measureArray_59 : decode (mB m_Fo_measureArray) 59 = .ok (.getfield 59, 3) := by decide +kernel
theorem d_Fo_measureArray_62 : decode (mB m_Fo_measureArray) 62 = .ok (.bipush 47, 2) := by decide +kernel
theorem d_Fo_measureArray_64 : decode (mB m_Fo_measureArray) 64 = .ok (.if_icmp .ne 7, 3) := by decide +kernel
theorem d_Fo_measureArray_67 : decode (mB m_Fo_measureArray) 67 = .ok (.lconst 1, 1) := by decide +kernel
theorem d_Fo_measureArray_68 : decode (mB m_Fo_measureArray) 68 = .ok (.goto 7, 3) := by decide +kernel
theorem d_Fo_measureArray_71 : decode (mB m_Fo_measureArray) 71 = .ok (.aload_n 1, 1) := by decide +kernel
theorem d_Fo_measureArray_72 : decode (mB m_Fo_measureArray) 72 = .ok (.getfield 34, 3) := by decide +kernel
theorem d_Fo_measureArray_75 : decode (mB m_Fo_measureArray) 75 = .ok (.lmul, 1) := by decide +kernel
theorem d_Fo_measureArray_76 : decode (mB m_Fo_measureArray) 76 = .ok (.putfield 34, 3) := by decide +kernel
theorem d_Fo_measureArray_79 : decode (mB m_Fo_measureArray) 79 = .ok (.return_, 1) := by decide +kernel
theorem d_Fo_measureChoice_0 : decode (mB m_Fo_measureChoice) 0 = .ok (.aload_n 0, 1) := by decide +kernel
theorem d_Fo_measureChoice_1 : decode (mB m_Fo_measureChoice) 1 = .ok (.ldc2_w 54, 3) := by decide +kernel
theorem d_Fo_measureChoice_4 : decode (mB m_Fo_measureChoice) 4 = .ok (.putfield 30, 3) := by decide +kernel
theorem d_Fo_measureChoice_7 : decode (mB m_Fo_measureChoice) 7 = .ok (.aload_n 0, 1) := by decide +kernel
theorem d_Fo_measureChoice_8 : decode (mB m_Fo_measureChoice) 8 = .ok (.getfield 106, 3) := by decide +kernel
theorem d_Fo_measureChoice_11 : decode (mB m_Fo_measureChoice) 11 = .ok (.astore_n 1, 1) := by decide +kernel
theorem d_Fo_measureChoice_12 : decode (mB m_Fo_measureChoice) 12 = .ok (.aload_n 1, 1) := by decide +kernel
theorem d_Fo_measureChoice_13 : decode (mB m_Fo_measureChoice) 13 = .ok (.ifnull 41, 3) := by decide +kernel
theorem d_Fo_measureChoice_16 : decode (mB m_Fo_measureChoice) 16 = .ok (.aload_n 0, 1) := by decide +kernel
theorem d_Fo_measureChoice_17 : decode (mB m_Fo_measureChoice) 17 = .ok (.aload_n 0, 1) := by decide +kernel
theorem d_Fo_measureChoice_18 : decode (mB m_Fo_measureChoice) 18 = .ok (.getfield 30, 3) := by decide +kernel
theorem d_Fo_measureChoice_21 : decode (mB m_Fo_measureChoice) 21 = .ok (.aload_n 1, 1) := by decide +kernel
theorem d_Fo_measureChoice_22 : decode (mB m_Fo_measureChoice) 22 = .ok (.getfield 30, 3) := by decide +kernel
theorem d_Fo_measureChoice_25 : decode (mB m_Fo_measureChoice) 25 = .ok (.invokestatic 142, 3) := by decide +kernel
theorem d_Fo_measureChoice_28 : decode (mB m_Fo_measureChoice) 28 = .ok (.putfield 30, 3) := by decide +kernel
theorem d_Fo_measureChoice_31 : decode (mB m_Fo_measureChoice) 31 = .ok (.aload_n 0, 1) := by decide +kernel
theorem d_Fo_measureChoice_32 : decode (mB m_Fo_measureChoice) 32 = .ok (.aload_n 0, 1) := by decide +kernel
theorem d_Fo_measureChoice_33 : decode (mB m_Fo_measureChoice) 33 = .ok (.getfield 34, 3) := by decide +kernel
theorem d_Fo_measureChoice_36 : decode (mB m_Fo_measureChoice) 36 = .ok (.aload_n 1, 1) := by decide +kernel
theorem d_Fo_measureChoice_37 : decode (mB m_Fo_measureChoice) 37 = .ok (.getfield 34, 3) := by decide +kernel
theorem d_Fo_measureChoice_40 : decode (mB m_Fo_measureChoice) 40 = .ok (.invokestatic 136, 3) := by decide +kernel
theorem d_Fo_measureChoice_43 : decode (mB m_Fo_measureChoice) 43 = .ok (.putfield 34, 3) := by decide +kernel
theorem d_Fo_measureChoice_46 : decode (mB m_Fo_measureChoice) 46 = .ok (.aload_n 1, 1) := by decide +kernel
theorem d_Fo_measureChoice_47 : decode (mB m_Fo_measureChoice) 47 = .ok (.getfield 73, 3) := by decide +kernel
theorem d_Fo_measureChoice_50 : decode (mB m_Fo_measureChoice) 50 = .ok (.astore_n 1, 1) := by decide +kernel
theorem d_Fo_measureChoice_51 : decode (mB m_Fo_measureChoice) 51 = .ok (.goto (-39), 3) := by decide +kernel
theorem d_Fo_measureChoice_54 : decode (mB m_Fo_measureChoice) 54 = .ok (.return_, 1) := by decide +kernel
theorem d_Fo_repeatsFittingly_0 : decode (mB m_Fo_repeatsFittingly) 0 = .ok (.aload_n 0, 1) := by decide +kernel
theorem d_Fo_repeatsFittingly_1 : decode (mB m_Fo_repeatsFittingly) 1 = .ok (.getfield 106, 3) := by decide +kernel
theorem d_Fo_repeatsFittingly_4 : decode (mB m_Fo_repeatsFittingly) 4 = .ok (.astore_n 1, 1) := by decide +kernel
theorem d_Fo_repeatsFittingly_5 : decode (mB m_Fo_repeatsFittingly) 5 = .ok (.aload_n 0, 1) := by decide +kernel
theorem d_Fo_repeatsFittingly_6 : decode (mB m_Fo_repeatsFittingly) 6 = .ok (.getfield 59, 3) := by decide +kernel
theorem d_Fo_repeatsFittingly_9 : decode (mB m_Fo_repeatsFittingly) 9 = .ok (.bipush 42, 2) := by decide +kernel
theorem d_Fo_repeatsFittingly_11 : decode (mB m_Fo_repeatsFittingly) 11 = .ok (.if_icmp .ne 22, 3) := by decide +kernel
theorem d_Fo_repeatsFittingly_14 : decode (mB m_Fo_repeatsFittingly) 14 = .ok (.aload_n 1, 1) := by decide +kernel
theorem d_Fo_repeatsFittingly_15 : decode (mB m_Fo_repeatsFittingly) 15 = .ok (.ifnull 16, 3) := by decide +kernel
theorem d_Fo_repeatsFittingly_18 : decode (mB m_Fo_repeatsFittingly) 18 = .ok (.aload_n 1, 1) := by decide +kernel
theorem d_Fo_repeatsFittingly_19 : decode (mB m_Fo_repeatsFittingly) 19 = .ok (.getfield 34, 3) := by decide +kernel
theorem d_Fo_repeatsFittingly_22 : decode (mB m_Fo_repeatsFittingly) 22 = .ok (.lconst 0, 1) := by decide +kernel
theorem d_Fo_repeatsFittingly_23 : decode (mB m_Fo_repeatsFittingly) 23 = .ok (.lcmp, 1) := by decide +kernel
theorem d_Fo_repeatsFittingly_24 : decode (mB m_Fo_repeatsFittingly) 24 = .ok (.ifCond .le 7, 3) := by decide +kernel
theorem d_Fo_repeatsFittingly_27 : decode (mB m_Fo_repeatsFittingly) 27 = .ok (.iconst 1, 1) := by decide +kernel
theorem d_Fo_repeatsFittingly_28 : decode (mB m_Fo_repeatsFittingly) 28 = .ok (.goto 4, 3) := by decide +kernel
theorem d_Fo_repeatsFittingly_31 : decode (mB m_Fo_repeatsFittingly) 31 = .ok (.iconst 0, 1) := by decide +kernel
theorem d_Fo_repeatsFittingly_32 : decode (mB m_Fo_repeatsFittingly) 32 = .ok (.ireturn, 1) := by decide +kernel
theorem d_Fo_repeatsFittingly_33 : decode (mB m_Fo_repeatsFittingly) 33 = .ok (.aload_n 0, 1) := by decide +kernel
theorem d_Fo_repeatsFittingly_34 : decode (mB m_Fo_repeatsFittingly) 34 = .ok (.getfield 59, 3) := by decide +kernel
theorem d_Fo_repeatsFittingly_37 : decode (mB m_Fo_repeatsFittingly) 37 = .ok (.bipush 47, 2) := by decide +kernel
theorem d_Fo_repeatsFittingly_39 : decode (mB m_Fo_repeatsFittingly) 39 = .ok (.if_icmp .ne 22, 3) := by decide +kernel
theorem d_Fo_repeatsFittingly_42 : decode (mB m_Fo_repeatsFittingly) 42 = .ok (.aload_n 1, 1) := by decide +kernel
theorem d_Fo_repeatsFittingly_43 : decode (mB m_Fo_repeatsFittingly) 43 = .ok (.ifnull 16, 3) := by decide +kernel
theorem d_Fo_repeatsFittingly_46 : decode (mB m_Fo_repeatsFittingly) 46 = .ok (.aload_n 1, 1) := by decide +kernel
theorem d_Fo_repeatsFittingly_47 : decode (mB m_Fo_repeatsFittingly) 47 = .ok (.getfield 30, 3) := by decide +kernel
theorem d_Fo_repeatsFittingly_50 : decode (mB m_Fo_repeatsFittingly) 50 = .ok (.lconst 0, 1) := by decide +kernel
theorem d_Fo_repeatsFittingly_51 : decode (mB m_Fo_repeatsFittingly) 51 = .ok (.lcmp, 1) := by decide +kernel
theorem d_Fo_repeatsFittingly_52 : decode (mB m_Fo_repeatsFittingly) 52 = .ok (.ifCond .le 7, 3) := by decide +kernel
theorem d_Fo_repeatsFittingly_55 : decode (mB m_Fo_repeatsFittingly) 55 = .ok (.iconst 1, 1) := by decide +kernel
theorem d_Fo_repeatsFittingly_56 : decode (mB m_Fo_repeatsFittingly) 56 = .ok (.goto 4, 3) := by decide +kernel
theorem d_Fo_repeatsFittingly_59 : decode (mB m_Fo_repeatsFittingly) 59 = .ok (.iconst 0, 1) := by decide +kernel
theorem d_Fo_repeatsFittingly_60 : decode (mB m_Fo_repeatsFittingly) 60 = .ok (.ireturn, 1) := by decide +kernel
theorem d_Fo_repeatsFittingly_61 : decode (mB m_Fo_repeatsFittingly) 61 = .ok (.iconst 1, 1) := by decide +kernel
theorem d_Fo_repeatsFittingly_62 : decode (mB m_Fo_repeatsFittingly) 62 = .ok (.ireturn, 1) := by decide +kernel
