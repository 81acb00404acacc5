theorem d_Wr_init_0 : decode (mB m_Wr_init) 0 = .ok (.aload_n 0, 1) := by decide +kernel
theorem d_Wr_init_1 : decode (mB m_Wr_init) 1 = .ok (.invokespecial 3, 3) := by decide +kernel
theorem d_Wr_init_4 : decode (mB m_Wr_init) 4 = .ok (.aload_n 0, 1) := by decide +kernel
theorem d_Wr_init_5 : decode (mB m_Wr_init) 5 = .ok (.aload_n 1, 1) := by decide +kernel
theorem d_Wr_init_6 : decode (mB m_Wr_init) 6 = .ok (.putfield 9, 3) := by decide +kernel
theorem d_Wr_init_9 : decode (mB m_Wr_init) 9 = .ok (.aload_n 0, 1) := by decide +kernel
theorem d_Wr_init_10 : decode (mB m_Wr_init) 10 = .ok (.aload_n 2, 1) := by decide +kernel
theorem d_Wr_init_11 : decode (mB m_Wr_init) 11 = .ok (.putfield 15, 3) := by decide +kernel
theorem d_Wr_init_14 : decode (mB m_Wr_init) 14 = .ok (.aload_n 0, 1) := by decide +kernel
theorem d_Wr_init_15 : decode (mB m_Wr_init) 15 = .ok (.iconst 0, 1) := by decide +kernel
theorem d_Wr_init_16 : decode (mB m_Wr_init) 16 = .ok (.putfield 19, 3) := by decide +kernel
theorem d_Wr_init_19 : decode (mB m_Wr_init) 19 = .ok (.aload_n 0, 1) := by decide +kernel
theorem d_Wr_init_20 : decode (mB m_Wr_init) 20 = .ok (.lconst 0, 1) := by decide +kernel
theorem d_Wr_init_21 : decode (mB m_Wr_init) 21 = .ok (.putfield 23, 3) := by decide +kernel
theorem d_Wr_init_24 : decode (mB m_Wr_init) 24 = .ok (.return_, 1) := by decide +kernel
theorem d_Wr_passNumber_0 : decode (mB m_Wr_passNumber) 0 = .ok (.aload_n 0, 1) := by decide +kernel
theorem d_Wr_passNumber_1 : decode (mB m_Wr_passNumber) 1 = .ok (.aload_n 1, 1) := by decide +kernel
theorem d_Wr_passNumber_2 : decode (mB m_Wr_passNumber) 2 = .ok (.invokevirtual 27, 3) := by decide +kernel
theorem d_Wr_passNumber_5 : decode (mB m_Wr_passNumber) 5 = .ok (.istore_n 2, 1) := by decide +kernel
theorem d_Wr_passNumber_6 : decode (mB m_Wr_passNumber) 6 = .ok (.iconst 0, 1) := by decide +kernel
theorem d_Wr_passNumber_7 : decode (mB m_Wr_passNumber) 7 = .ok (.istore_n 3, 1) := by decide +kernel
theorem d_Wr_passNumber_8 : decode (mB m_Wr_passNumber) 8 = .ok (.iload_n 3, 1) := by decide +kernel
theorem d_Wr_passNumber_9 : decode (mB m_Wr_passNumber) 9 = .ok (.aload_n 1, 1) := by decide +kernel
theorem d_Wr_passNumber_10 : decode (mB m_Wr_passNumber) 10 = .ok (.getfield 31, 3) := by decide +kernel
theorem d_Wr_passNumber_13 : decode (mB m_Wr_passNumber) 13 = .ok (.if_icmp .ge 53, 3) := by decide +kernel
theorem d_Wr_passNumber_16 : decode (mB m_Wr_passNumber) 16 = .ok (.iload_n 2, 1) := by decide +kernel
theorem d_Wr_passNumber_17 : decode (mB m_Wr_passNumber) 17 = .ok (.ifCond .ne 49, 3) := by decide +kernel
theorem d_Wr_passNumber_20 : decode (mB m_Wr_passNumber) 20 = .ok (.aload_n 1, 1) := by decide +kernel
theorem d_Wr_passNumber_21 : decode (mB m_Wr_passNumber) 21 = .ok (.getfield 36, 3) := by decide +kernel
theorem d_Wr_passNumber_24 : decode (mB m_Wr_passNumber) 24 = .ok (.bipush 118, 2) := by decide +kernel
theorem d_Wr_passNumber_26 : decode (mB m_Wr_passNumber) 26 = .ok (.if_icmp .ne 7, 3) := by decide +kernel
theorem d_Wr_passNumber_29 : decode (mB m_Wr_passNumber) 29 = .ok (.iload_n 3, 1) := by decide +kernel
theorem d_Wr_passNumber_30 : decode (mB m_Wr_passNumber) 30 = .ok (.goto 11, 3) := by decide +kernel
theorem d_Wr_passNumber_33 : decode (mB m_Wr_passNumber) 33 = .ok (.aload_n 1, 1) := by decide +kernel
theorem d_Wr_passNumber_34 : decode (mB m_Wr_passNumber) 34 = .ok (.getfield 31, 3) := by decide +kernel
theorem d_Wr_passNumber_37 : decode (mB m_Wr_passNumber) 37 = .ok (.iconst 1, 1) := by decide +kernel
theorem d_Wr_passNumber_38 : decode (mB m_Wr_passNumber) 38 = .ok (.isub, 1) := by decide +kernel
theorem d_Wr_passNumber_39 : decode (mB m_Wr_passNumber) 39 = .ok (.iload_n 3, 1) := by decide +kernel
theorem d_Wr_passNumber_40 : decode (mB m_Wr_passNumber) 40 = .ok (.isub, 1) := by decide +kernel
theorem d_Wr_passNumber_41 : decode (mB m_Wr_passNumber) 41 = .ok (.istore 4, 2) := by decide +kernel
theorem d_Wr_passNumber_43 : decode (mB m_Wr_passNumber) 43 = .ok (.aload_n 0, 1) := by decide +kernel
theorem d_Wr_passNumber_44 : decode (mB m_Wr_passNumber) 44 = .ok (.aload_n 0, 1) := by decide +kernel
theorem d_Wr_passNumber_45 : decode (mB m_Wr_passNumber) 45 = .ok (.getfield 23, 3) := by decide +kernel
theorem d_Wr_passNumber_48 : decode (mB m_Wr_passNumber) 48 = .ok (.bipush 8, 2) := by decide +kernel
theorem d_Wr_passNumber_50 : decode (mB m_Wr_passNumber) 50 = .ok (.iload 4, 2) := by decide +kernel
theorem d_Wr_passNumber_52 : decode (mB m_Wr_passNumber) 52 = .ok (.imul, 1) := by decide +kernel
theorem d_Wr_passNumber_53 : decode (mB m_Wr_passNumber) 53 = .ok (.invokestatic 39, 3) := by decide +kernel
theorem d_Wr_passNumber_56 : decode (mB m_Wr_passNumber) 56 = .ok (.invokevirtual 43, 3) := by decide +kernel
theorem d_Wr_passNumber_59 : decode (mB m_Wr_passNumber) 59 = .ok (.istore_n 2, 1) := by decide +kernel
theorem d_Wr_passNumber_60 : decode (mB m_Wr_passNumber) 60 = .ok (.iinc 3 1, 3) := by decide +kernel
theorem d_Wr_passNumber_63 : decode (mB m_Wr_passNumber) 63 = .ok (.goto (-55), 3) := by decide +kernel
theorem d_Wr_passNumber_66 : decode (mB m_Wr_passNumber) 66 = .ok (.iload_n 2, 1) := by decide +kernel
theorem d_Wr_passNumber_67 : decode (mB m_Wr_passNumber) 67 = .ok (.ireturn, 1) := by decide +kernel
theorem d_Wr_passBits_0 : decode (mB m_Wr_passBits) 0 = .ok (.aload_n 0, 1) := by decide +kernel
theorem d_Wr_passBits_1 : decode (mB m_Wr_passBits) 1 = .ok (.aload_n 1, 1) := by decide +kernel
theorem d_Wr_passBits_2 : decode (mB m_Wr_passBits) 2 = .ok (.invokevirtual 27, 3) := by decide +kernel
theorem d_Wr_passBits_5 : decode (mB m_Wr_passBits) 5 = .ok (.istore_n 2, 1) := by decide +kernel
theorem d_Wr_passBits_6 : decode (mB m_Wr_passBits) 6 = .ok (.aload_n 1, 1) := by decide +kernel
theorem d_Wr_passBits_7 : decode (mB m_Wr_passBits) 7 = .ok (.getfield 31, 3) := by decide +kernel
theorem d_Wr_passBits_10 : decode (mB m_Wr_passBits) 10 = .ok (.iconst 1, 1) := by decide +kernel
theorem d_Wr_passBits_11 : decode (mB m_Wr_passBits) 11 = .ok (.isub, 1) := by decide +kernel
theorem d_Wr_passBits_12 : decode (mB m_Wr_passBits) 12 = .ok (.istore_n 3, 1) := by decide +kernel
theorem d_Wr_passBits_13 : decode (mB m_Wr_passBits) 13 = .ok (.iload_n 3, 1) := by decide +kernel
theorem d_Wr_passBits_14 : decode (mB m_Wr_passBits) 14 = .ok (.ifCond .lt 27, 3) := by decide +kernel
theorem d_Wr_passBits_17 : decode (mB m_Wr_passBits) 17 = .ok (.iload_n 2, 1) := by decide +kernel
theorem d_Wr_passBits_18 : decode (mB m_Wr_passBits) 18 = .ok (.ifCond .ne 23, 3) := by decide +kernel
theorem d_Wr_passBits_21 : decode (mB m_Wr_passBits) 21 = .ok (.aload_n 0, 1) := by decide +kernel
theorem d_Wr_passBits_22 : decode (mB m_Wr_passBits) 22 = .ok (.aload_n 0, 1) := by decide +kernel
theorem d_Wr_passBits_23 : decode (mB m_Wr_passBits) 23 = .ok (.getfield 23, 3) := by decide +kernel
theorem d_Wr_passBits_26 : decode (mB m_Wr_passBits) 26 = .ok (.iload_n 3, 1) := by decide +kernel
theorem d_Wr_passBits_27 : decode (mB m_Wr_passBits) 27 = .ok (.lshr, 1) := by decide +kernel
theorem d_Wr_passBits_28 : decode (mB m_Wr_passBits) 28 = .ok (.l2i, 1) := by decide +kernel
theorem d_Wr_passBits_29 : decode (mB m_Wr_passBits) 29 = .ok (.iconst 1, 1) := by decide +kernel
theorem d_Wr_passBits_30 : decode (mB m_Wr_passBits) 30 = .ok (.iand, 1) := by decide +kernel
theorem d_Wr_passBits_31 : decode (mB m_Wr_passBits) 31 = .ok (.invokevirtual 47, 3) := by decide +kernel
theorem d_Wr_passBits_34 : decode (mB m_Wr_passBits) 34 = .ok (.istore_n 2, 1) := by decide +kernel
theorem d_Wr_passBits_35 : decode (mB m_Wr_passBits) 35 = .ok (.iinc 3 (-1), 3) := by decide +kernel
theorem d_Wr_passBits_38 : decode (mB m_Wr_passBits) 38 = .ok (.goto (-25), 3) := by decide +kernel
theorem d_Wr_passBits_41 : decode (mB m_Wr_passBits) 41 = .ok (.iload_n 2, 1) := by decide +kernel
theorem d_Wr_passBits_42 : decode (mB m_Wr_passBits) 42 = .ok (.ireturn, 1) := by decide +kernel
theorem d_Wr_passWords_0 : decode (mB m_Wr_passWords) 0 = .ok (.aload_n 0, 1) := by decide +kernel
theorem d_Wr_passWords_1 : decode (mB m_Wr_passWords) 1 = .ok (.lconst 0, 1) := by decide +kernel
theorem d_Wr_passWords_2 : decode (mB m_Wr_passWords) 2 = .ok (.ldc2_w 50, 3) := by decide +kernel
theorem d_Wr_passWords_5 : decode (mB m_Wr_passWords) 5 = .ok (.invokevirtual 52, 3) := by decide +kernel
theorem d_Wr_passWords_8 : decode (mB m_Wr_passWords) 8 = .ok (.istore_n 1, 1) := by decide +kernel
theorem d_Wr_passWords_9 : decode (mB m_Wr_passWords) 9 = .ok (.iload_n 1, 1) := by decide +kernel
theorem d_Wr_passWords_10 : decode (mB m_Wr_passWords) 10 = .ok (.ifCond .ne 14, 3) := by decide +kernel
theorem d_Wr_passWords_13 : decode (mB m_Wr_passWords) 13 = .ok (.aload_n 0, 1) := by decide +kernel
theorem d_Wr_passWords_14 : decode (mB m_Wr_passWords) 14 = .ok (.aload_n 0, 1) := by decide +kernel
theorem d_Wr_passWords_15 : decode (mB m_Wr_passWords) 15 = .ok (.getfield 23, 3) := by decide +kernel
theorem d_Wr_passWords_18 : decode (mB m_Wr_passWords) 18 = .ok (.l2i, 1) := by decide +kernel
theorem d_Wr_passWords_19 : decode (mB m_Wr_passWords) 19 = .ok (.iconst 1, 1) := by decide +kernel
theorem d_Wr_passWords_20 : decode (mB m_Wr_passWords) 20 = .ok (.invokevirtual 56, 3) := by decide +kernel
theorem d_Wr_passWords_23 : decode (mB m_Wr_passWords) 23 = .ok (.istore_n 1, 1) := by decide +kernel
theorem d_Wr_passWords_24 : decode (mB m_Wr_passWords) 24 = .ok (.iload_n 1, 1) := by decide +kernel
theorem d_Wr_passWords_25 : decode (mB m_Wr_passWords) 25 = .ok (.ifCond .ne 11, 3) := by decide +kernel
theorem d_Wr_passWords_28 : decode (mB m_Wr_passWords) 28 = .ok (.aload_n 0, 1) := by decide +kernel
theorem d_Wr_passWords_29 : decode (mB m_Wr_passWords) 29 = .ok (.iconst 0, 1) := by decide +kernel
theorem d_Wr_passWords_30 : decode (mB m_Wr_passWords) 30 = .ok (.invokevirtual 43, 3) := by decide +kernel
theorem d_Wr_passWords_33 : decode (mB m_Wr_passWords) 33 = .ok (.goto 4, 3) := by decide +kernel
theorem d_Wr_passWords_36 : decode (mB m_Wr_passWords) 36 = .ok (.iload_n 1, 1) := by decide +kernel
theorem d_Wr_passWords_37 : decode (mB m_Wr_passWords) 37 = .ok (.ireturn, 1) := by decide +kernel
theorem d_Wr_passRest_0 : decode (mB m_Wr_passRest) 0 = .ok (.aload_n 0, 1) := by decide +kernel
theorem d_Wr_passRest_1 : decode (mB m_Wr_passRest) 1 = .ok (.lconst 0, 1) := by decide +kernel
theorem d_Wr_passRest_2 : decode (mB m_Wr_passRest) 2 = .ok (.ldc2_w 60, 3) := by decide +kernel
theorem d_Wr_passRest_5 : decode (mB m_Wr_passRest) 5 = .ok (.invokevirtual 52, 3) := by decide +kernel
theorem d_Wr_passRest_8 : decode (mB m_Wr_passRest) 8 = .ok (.istore_n 1, 1) := by decide +kernel
theorem d_Wr_passRest_9 : decode (mB m_Wr_passRest) 9 = .ok (.iload_n 1, 1) := by decide +kernel
theorem d_Wr_passRest_10 : decode (mB m_Wr_passRest) 10 = .ok (.ifCond .ne 16, 3) := by decide +kernel
theorem d_Wr_passRest_13 : decode (mB m_Wr_passRest) 13 = .ok (.aload_n 0, 1) := by decide +kernel
theorem d_Wr_passRest_14 : decode (mB m_Wr_passRest) 14 = .ok (.aload_n 0, 1) := by decide +kernel
theorem d_Wr_passRest_15 : decode (mB m_Wr_passRest) 15 = .ok (.getfield 23, 3) := by decide +kernel
theorem d_Wr_passRest_18 : decode (mB m_Wr_passRest) 18 = .ok (.l2i, 1) := by decide +kernel
theorem d_Wr_passRest_19 : decode (mB m_Wr_passRest) 19 = .ok (.iconst 0, 1) := by decide +kernel
theorem d_Wr_passRest_20 : decode (mB m_Wr_passRest) 20 = .ok (.invokevirtual 56, 3) := by decide +kernel
theorem d_Wr_passRest_23 : decode (mB m_Wr_passRest) 23 = .ok (.goto 4, 3) := by decide +kernel
theorem d_Wr_passRest_26 : decode (mB m_Wr_passRest) 26 = .ok (.iload_n 1, 1) := by decide +kernel
theorem d_Wr_passRest_27 : decode (mB m_Wr_passRest) 27 = .ok (.ireturn, 1) := by decide +kernel
theorem d_Wr_passSpare_0 : decode (mB m_Wr_passSpare) 0 = .ok (.aload_n 0, 1) := by decide +kernel
theorem d_Wr_passSpare_1 : decode (mB m_Wr_passSpare) 1 = .ok (.bipush 8, 2) := by decide +kernel
theorem d_Wr_passSpare_3 : decode (mB m_Wr_passSpare) 3 = .ok (.aload_n 0, 1) := by decide +kernel
theorem d_Wr_passSpare_4 : decode (mB m_Wr_passSpare) 4 = .ok (.invokevirtual 62, 3) := by decide +kernel
theorem d_Wr_passSpare_7 : decode (mB m_Wr_passSpare) 7 = .ok (.imul, 1) := by decide +kernel
theorem d_Wr_passSpare_8 : decode (mB m_Wr_passSpare) 8 = .ok (.putfield 66, 3) := by decide +kernel
theorem d_Wr_passSpare_11 : decode (mB m_Wr_passSpare) 11 = .ok (.iconst 0, 1) := by decide +kernel
theorem d_Wr_passSpare_12 : decode (mB m_Wr_passSpare) 12 = .ok (.ireturn, 1) := by decide +kernel
theorem d_Wr_takeFor_0 : decode (mB m_Wr_takeFor) 0 = .ok (.aload_n 0, 1) := by decide +kernel
theorem d_Wr_takeFor_1 : decode (mB m_Wr_takeFor) 1 = .ok (.aload_n 1, 1) := by decide +kernel
theorem d_Wr_takeFor_2 : decode (mB m_Wr_takeFor) 2 = .ok (.getfield 69, 3) := by decide +kernel
theorem d_Wr_takeFor_5 : decode (mB m_Wr_takeFor) 5 = .ok (.aload_n 1, 1) := by decide +kernel
theorem d_Wr_takeFor_6 : decode (mB m_Wr_takeFor) 6 = .ok (.getfield 72, 3) := by decide +kernel
theorem d_Wr_takeFor_9 : decode (mB m_Wr_takeFor) 9 = .ok (.invokevirtual 52, 3) := by decide +kernel
theorem d_Wr_takeFor_12 : decode (mB m_Wr_takeFor) 12 = .ok (.istore_n 2, 1) := by decide +kernel
theorem d_Wr_takeFor_13 : decode (mB m_Wr_takeFor) 13 = .ok (.iload_n 2, 1) := by decide +kernel
theorem d_Wr_takeFor_14 : decode (mB m_Wr_takeFor) 14 = .ok (.ifCond .ne 11, 3) := by decide +kernel
theorem d_Wr_takeFor_17 : decode (mB m_Wr_takeFor) 17 = .ok (.aload_n 1, 1) := by decide +kernel
theorem d_Wr_takeFor_18 : decode (mB m_Wr_takeFor) 18 = .ok (.aload_n 0, 1) := by decide +kernel
theorem d_Wr_takeFor_19 : decode (mB m_Wr_takeFor) 19 = .ok (.getfield 23, 3) := by decide +kernel
theorem d_Wr_takeFor_22 : decode (mB m_Wr_takeFor) 22 = .ok (.putfield 75, 3) := by decide +kernel
theorem d_Wr_takeFor_25 : decode (mB m_Wr_takeFor) 25 = .ok (.iload_n 2, 1) := by decide +kernel
theorem d_Wr_takeFor_26 : decode (mB m_Wr_takeFor) 26 = .ok (.ireturn, 1) := by decide +kernel
theorem d_Wr_take_0 : decode (mB m_Wr_take) 0 = .ok (.aload_n 0, 1) := by decide +kernel
theorem d_Wr_take_1 : decode (mB m_Wr_take) 1 = .ok (.getfield 19, 3) := by decide +kernel
theorem d_Wr_take_4 : decode (mB m_Wr_take) 4 = .ok (.aload_n 0, 1) := by decide +kernel
theorem d_Wr_take_5 : decode (mB m_Wr_take) 5 = .ok (.getfield 9, 3) := by decide +kernel
theorem d_Wr_take_8 : decode (mB m_Wr_take) 8 = .ok (.getfield 78, 3) := by decide +kernel
theorem d_Wr_take_11 : decode (mB m_Wr_take) 11 = .ok (.if_icmp .lt 5, 3) := by decide +kernel
theorem d_Wr_take_14 : decode (mB m_Wr_take) 14 = .ok (.iconst 1, 1) := by decide +kernel
theorem d_Wr_take_15 : decode (mB m_Wr_take) 15 = .ok (.ireturn, 1) := by decide +kernel
theorem d_Wr_take_16 : decode (mB m_Wr_take) 16 = .ok (.aload_n 0, 1) := by decide +kernel
theorem d_Wr_take_17 : decode (mB m_Wr_take) 17 = .ok (.aload_n 0, 1) := by decide +kernel
theorem d_Wr_take_18 : decode (mB m_Wr_take) 18 = .ok (.getfield 9, 3) := by decide +kernel
theorem d_Wr_take_21 : decode (mB m_Wr_take) 21 = .ok (.aload_n 0, 1) := by decide +kernel
theorem d_Wr_take_22 : decode (mB m_Wr_take) 22 = .ok (.getfield 19, 3) := by decide +kernel
theorem d_Wr_take_25 : decode (mB m_Wr_take) 25 = .ok (.invokevirtual 83, 3) := by decide +kernel
theorem d_Wr_take_28 : decode (mB m_Wr_take) 28 = .ok (.putfield 23, 3) := by decide +kernel
theorem d_Wr_take_31 : decode (mB m_Wr_take) 31 = .ok (.aload_n 0, 1) := by decide +kernel
theorem d_Wr_take_32 : decode (mB m_Wr_take) 32 = .ok (.dup, 1) := by decide +kernel
theorem d_Wr_take_33 : decode (mB m_Wr_take) 33 = .ok (.getfield 19, 3) := by decide +kernel
theorem d_Wr_take_36 : decode (mB m_Wr_take) 36 = .ok (.iconst 1, 1) := by decide +kernel
theorem d_Wr_take_37 : decode (mB m_Wr_take) 37 = .ok (.iadd, 1) := by decide +kernel
theorem d_Wr_take_38 : decode (mB m_Wr_take) 38 = .ok (.putfield 19, 3) := by decide +kernel
theorem d_Wr_take_41 : decode (mB m_Wr_take) 41 = .ok (.aload_n 0, 1) := by decide +kernel
theorem d_Wr_take_42 : decode (mB m_Wr_take) 42 = .ok (.getfield 23, 3) := by decide +kernel
theorem d_Wr_take_45 : decode (mB m_Wr_take) 45 = .ok (.lload_n 1, 1) := by decide +kernel
theorem d_Wr_take_46 : decode (mB m_Wr_take) 46 = .ok (.lcmp, 1) := by decide +kernel
theorem d_Wr_take_47 : decode (mB m_Wr_take) 47 = .ok (.ifCond .lt 16, 3) := by decide +kernel
theorem d_Wr_take_50 : decode (mB m_Wr_take) 50 = .ok (.aload_n 0, 1) := by decide +kernel
theorem d_Wr_take_51 : decode (mB m_Wr_take) 51 = .ok (.getfield 23, 3) := by decide +kernel
theorem d_Wr_take_54 : decode (mB m_Wr_take) 54 = .ok (.lload_n 3, 1) := by decide +kernel
theorem d_Wr_take_55 : decode (mB m_Wr_take) 55 = .ok (.lcmp, 1) := by decide +kernel
theorem d_Wr_take_56 : decode (mB m_Wr_take) 56 = .ok (.ifCond .gt 7, 3) := by decide +kernel
theorem d_Wr_take_59 : decode (mB m_Wr_take) 59 = .ok (.iconst 0, 1) := by decide +kernel
theorem d_Wr_take_60 : decode (mB m_Wr_take) 60 = .ok (.goto 4, 3) := by decide +kernel
theorem d_Wr_take_63 : decode (mB m_Wr_take) 63 = .ok (.iconst 2, 1) := by decide +kernel
theorem d_Wr_take_64 : decode (mB m_Wr_take) 64 = .ok (.ireturn, 1) := by decide +kernel
theorem d_Wr_makeBytes_0 : decode (mB m_Wr_makeBytes) 0 = .ok (.iconst 0, 1) := by decide +kernel
theorem d_Wr_makeBytes_1 : decode (mB m_Wr_makeBytes) 1 = .ok (.istore_n 3, 1) := by decide +kernel
theorem d_Wr_makeBytes_2 : decode (mB m_Wr_makeBytes) 2 = .ok (.iconst 0, 1) := by decide +kernel
theorem d_Wr_makeBytes_3 : decode (mB m_Wr_makeBytes) 3 = .ok (.istore 4, 2) := by decide +kernel
theorem d_Wr_makeBytes_5 : decode (mB m_Wr_makeBytes) 5 = .ok (.iload 4, 2) := by decide +kernel
theorem d_Wr_makeBytes_7 : decode (mB m_Wr_makeBytes) 7 = .ok (.iload_n 1, 1) := by decide +kernel
theorem d_Wr_makeBytes_8 : decode (mB m_Wr_makeBytes) 8 = .ok (.if_icmp .ge 37, 3) := by decide +kernel
theorem d_Wr_makeBytes_11 : decode (mB m_Wr_makeBytes) 11 = .ok (.iload_n 3, 1) := by decide +kernel
theorem d_Wr_makeBytes_12 : decode (mB m_Wr_makeBytes) 12 = .ok (.ifCond .ne 33, 3) := by decide +kernel
theorem d_Wr_makeBytes_15 : decode (mB m_Wr_makeBytes) 15 = .ok (.aload_n 0, 1) := by decide +kernel
theorem d_Wr_makeBytes_16 : decode (mB m_Wr_makeBytes) 16 = .ok (.iload_n 2, 1) := by decide +kernel
theorem d_Wr_makeBytes_17 : decode (mB m_Wr_makeBytes) 17 = .ok (.i2l, 1) := by decide +kernel
theorem d_Wr_makeBytes_18 : decode (mB m_Wr_makeBytes) 18 = .ok (.ldc2_w 87, 3) := by decide +kernel
theorem d_Wr_makeBytes_21 : decode (mB m_Wr_makeBytes) 21 = .ok (.invokevirtual 52, 3) := by decide +kernel
theorem d_Wr_makeBytes_24 : decode (mB m_Wr_makeBytes) 24 = .ok (.istore_n 3, 1) := by decide +kernel
theorem d_Wr_makeBytes_25 : decode (mB m_Wr_makeBytes) 25 = .ok (.iload_n 3, 1) := by decide +kernel
theorem d_Wr_makeBytes_26 : decode (mB m_Wr_makeBytes) 26 = .ok (.ifCond .ne 13, 3) := by decide +kernel
theorem d_Wr_makeBytes_29 : decode (mB m_Wr_makeBytes) 29 = .ok (.aload_n 0, 1) := by decide +kernel
theorem d_Wr_makeBytes_30 : decode (mB m_Wr_makeBytes) 30 = .ok (.aload_n 0, 1) := by decide +kernel
theorem d_Wr_makeBytes_31 : decode (mB m_Wr_makeBytes) 31 = .ok (.getfield 23, 3) := by decide +kernel
theorem d_Wr_makeBytes_34 : decode (mB m_Wr_makeBytes) 34 = .ok (.l2i, 1) := by decide +kernel
theorem d_Wr_makeBytes_35 : decode (mB m_Wr_makeBytes) 35 = .ok (.invokevirtual 43, 3) := by decide +kernel
theorem d_Wr_makeBytes_38 : decode (mB m_Wr_makeBytes) 38 = .ok (.istore_n 3, 1) := by decide +kernel
theorem d_Wr_makeBytes_39 : decode (mB m_Wr_makeBytes) 39 = .ok (.iinc 4 1, 3) := by decide +kernel
theorem d_Wr_makeBytes_42 : decode (mB m_Wr_makeBytes) 42 = .ok (.goto (-37), 3) := by decide +kernel
theorem d_Wr_makeBytes_45 : decode (mB m_Wr_makeBytes) 45 = .ok (.iload_n 3, 1) := by decide +kernel
theorem d_Wr_makeBytes_46 : decode (mB m_Wr_makeBytes) 46 = .ok (.ireturn, 1) := by decide +kernel
theorem d_Wr_make_0 : decode (mB m_Wr_make) 0 = .ok (.aload_n 0, 1) := by decide +kernel
theorem d_Wr_make_1 : decode (mB m_Wr_make) 1 = .ok (.dup, 1) := by decide +kernel
theorem d_Wr_make_2 : decode (mB m_Wr_make) 2 = .ok (.getfield 66, 3) := by decide +kernel
theorem d_Wr_make_5 : decode (mB m_Wr_make) 5 = .ok (.bipush 8, 2) := by decide +kernel
theorem d_Wr_make_7 : decode (mB m_Wr_make) 7 = .ok (.iadd, 1) := by decide +kernel
theorem d_Wr_make_8 : decode (mB m_Wr_make) 8 = .ok (.putfield 66, 3) := by decide +kernel
theorem d_Wr_make_11 : decode (mB m_Wr_make) 11 = .ok (.aload_n 0, 1) := by decide +kernel
theorem d_Wr_make_12 : decode (mB m_Wr_make) 12 = .ok (.getfield 15, 3) := by decide +kernel
theorem d_Wr_make_15 : decode (mB m_Wr_make) 15 = .ok (.iload_n 1, 1) := by decide +kernel
theorem d_Wr_make_16 : decode (mB m_Wr_make) 16 = .ok (.invokevirtual 89, 3) := by decide +kernel
theorem d_Wr_make_19 : decode (mB m_Wr_make) 19 = .ok (.ifCond .eq 7, 3) := by decide +kernel
theorem d_Wr_make_22 : decode (mB m_Wr_make) 22 = .ok (.iconst 0, 1) := by decide +kernel
theorem d_Wr_make_23 : decode (mB m_Wr_make) 23 = .ok (.goto 4, 3) := by decide +kernel
theorem d_Wr_make_26 : decode (mB m_Wr_make) 26 = .ok (.iconst 2, 1) := by decide +kernel
theorem d_Wr_make_27 : decode (mB m_Wr_make) 27 = .ok (.ireturn, 1) := by decide +kernel
theorem d_Wr_makeBit_0 : decode (mB m_Wr_makeBit) 0 = .ok (.aload_n 0, 1) := by decide +kernel
theorem d_Wr_makeBit_1 : decode (mB m_Wr_makeBit) 1 = .ok (.getfield 66, 3) := by decide +kernel
theorem d_Wr_makeBit_4 : decode (mB m_Wr_makeBit) 4 = .ok (.bipush 8, 2) := by decide +kernel
theorem d_Wr_makeBit_6 : decode (mB m_Wr_makeBit) 6 = .ok (.irem, 1) := by decide +kernel
theorem d_Wr_makeBit_7 : decode (mB m_Wr_makeBit) 7 = .ok (.ifCond .ne 16, 3) := by decide +kernel
theorem d_Wr_makeBit_10 : decode (mB m_Wr_makeBit) 10 = .ok (.aload_n 0, 1) := by decide +kernel
theorem d_Wr_makeBit_11 : decode (mB m_Wr_makeBit) 11 = .ok (.getfield 15, 3) := by decide +kernel
theorem d_Wr_makeBit_14 : decode (mB m_Wr_makeBit) 14 = .ok (.iconst 0, 1) := by decide +kernel
theorem d_Wr_makeBit_15 : decode (mB m_Wr_makeBit) 15 = .ok (.invokevirtual 89, 3) := by decide +kernel
theorem d_Wr_makeBit_18 : decode (mB m_Wr_makeBit) 18 = .ok (.ifCond .ne 5, 3) := by decide +kernel
theorem d_Wr_makeBit_21 : decode (mB m_Wr_makeBit) 21 = .ok (.iconst 2, 1) := by decide +kernel
theorem d_Wr_makeBit_22 : decode (mB m_Wr_makeBit) 22 = .ok (.ireturn, 1) := by decide +kernel
theorem d_Wr_makeBit_23 : decode (mB m_Wr_makeBit) 23 = .ok (.aload_n 0, 1) := by decide +kernel
theorem d_Wr_makeBit_24 : decode (mB m_Wr_makeBit) 24 = .ok (.getfield 15, 3) := by decide +kernel
theorem d_Wr_makeBit_27 : decode (mB m_Wr_makeBit) 27 = .ok (.iload_n 1, 1) := by decide +kernel
theorem d_Wr_makeBit_28 : decode (mB m_Wr_makeBit) 28 = .ok (.bipush 7, 2) := by decide +kernel
theorem d_Wr_makeBit_30 : decode (mB m_Wr_makeBit) 30 = .ok (.aload_n 0, 1) := by decide +kernel
theorem d_Wr_makeBit_31 : decode (mB m_Wr_makeBit) 31 = .ok (.getfield 66, 3) := by decide +kernel
theorem d_Wr_makeBit_34 : decode (mB m_Wr_makeBit) 34 = .ok (.bipush 8, 2) := by decide +kernel
theorem d_Wr_makeBit_36 : decode (mB m_Wr_makeBit) 36 = .ok (.irem, 1) := by decide +kernel
theorem d_Wr_makeBit_37 : decode (mB m_Wr_makeBit) 37 = .ok (.isub, 1) := by decide +kernel
theorem d_Wr_makeBit_38 : decode (mB m_Wr_makeBit) 38 = .ok (.ishl, 1) := by decide +kernel
theorem d_Wr_makeBit_39 : decode (mB m_Wr_makeBit) 39 = .ok (.invokevirtual 95, 3) := by decide +kernel
theorem d_Wr_makeBit_42 : decode (mB m_Wr_makeBit) 42 = .ok (.aload_n 0, 1) := by decide +kernel
theorem d_Wr_makeBit_43 : decode (mB m_Wr_makeBit) 43 = .ok (.dup, 1) := by decide +kernel
theorem d_Wr_makeBit_44 : decode (mB m_Wr_makeBit) 44 = .ok (.getfield 66, 3) := by decide +kernel
theorem d_Wr_makeBit_47 : decode (mB m_Wr_makeBit) 47 = .ok (.iconst 1, 1) := by decide +kernel
theorem d_Wr_makeBit_48 : decode (mB m_Wr_makeBit) 48 = .ok (.iadd, 1) := by decide +kernel
theorem d_Wr_makeBit_49 : decode (mB m_Wr_makeBit) 49 = .ok (.putfield 66, 3) := by decide +kernel
theorem d_Wr_makeBit_52 : decode (mB m_Wr_makeBit) 52 = .ok (.iconst 0, 1) := by decide +kernel
theorem d_Wr_makeBit_53 : decode (mB m_Wr_makeBit) 53 = .ok (.ireturn, 1) := by decide +kernel
