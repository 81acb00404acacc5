theorem d_By_init_0 : decode (mB m_By_init) 0 = .ok (.aload_n 0, 1) := by decide +kernel
theorem d_By_init_1 : decode (mB m_By_init) 1 = .ok (.invokespecial 1, 3) := by decide +kernel
theorem d_By_init_4 : decode (mB m_By_init) 4 = .ok (.aload_n 0, 1) := by decide +kernel
theorem d_By_init_5 : decode (mB m_By_init) 5 = .ok (.iload_n 1, 1) := by decide +kernel
theorem d_By_init_6 : decode (mB m_By_init) 6 = .ok (.newarray .byte, 2) := by decide +kernel
theorem d_By_init_8 : decode (mB m_By_init) 8 = .ok (.putfield 7, 3) := by decide +kernel
theorem d_By_init_11 : decode (mB m_By_init) 11 = .ok (.aload_n 0, 1) := by decide +kernel
theorem d_By_init_12 : decode (mB m_By_init) 12 = .ok (.iconst 0, 1) := by decide +kernel
theorem d_By_init_13 : decode (mB m_By_init) 13 = .ok (.putfield 13, 3) := by decide +kernel
theorem d_By_init_16 : decode (mB m_By_init) 16 = .ok (.return_, 1) := by decide +kernel
theorem d_By_hasRoomFor_0 : decode (mB m_By_hasRoomFor) 0 = .ok (.iload_n 1, 1) := by decide +kernel
theorem d_By_hasRoomFor_1 : decode (mB m_By_hasRoomFor) 1 = .ok (.aload_n 0, 1) := by decide +kernel
theorem d_By_hasRoomFor_2 : decode (mB m_By_hasRoomFor) 2 = .ok (.getfield 7, 3) := by decide +kernel
theorem d_By_hasRoomFor_5 : decode (mB m_By_hasRoomFor) 5 = .ok (.arraylength, 1) := by decide +kernel
theorem d_By_hasRoomFor_6 : decode (mB m_By_hasRoomFor) 6 = .ok (.aload_n 0, 1) := by decide +kernel
theorem d_By_hasRoomFor_7 : decode (mB m_By_hasRoomFor) 7 = .ok (.getfield 13, 3) := by decide +kernel
theorem d_By_hasRoomFor_10 : decode (mB m_By_hasRoomFor) 10 = .ok (.isub, 1) := by decide +kernel
theorem d_By_hasRoomFor_11 : decode (mB m_By_hasRoomFor) 11 = .ok (.if_icmp .gt 7, 3) := by decide +kernel
theorem d_By_hasRoomFor_14 : decode (mB m_By_hasRoomFor) 14 = .ok (.iconst 1, 1) := by decide +kernel
theorem d_By_hasRoomFor_15 : decode (mB m_By_hasRoomFor) 15 = .ok (.goto 4, 3) := by decide +kernel
theorem d_By_hasRoomFor_18 : decode (mB m_By_hasRoomFor) 18 = .ok (.iconst 0, 1) := by decide +kernel
theorem d_By_hasRoomFor_19 : decode (mB m_By_hasRoomFor) 19 = .ok (.ireturn, 1) := by decide +kernel
theorem d_By_at_0 : decode (mB m_By_at) 0 = .ok (.iload_n 1, 1) := by decide +kernel
theorem d_By_at_1 : decode (mB m_By_at) 1 = .ok (.ifCond .lt 24, 3) := by decide +kernel
theorem d_By_at_4 : decode (mB m_By_at) 4 = .ok (.iload_n 1, 1) := by decide +kernel
theorem d_By_at_5 : decode (mB m_By_at) 5 = .ok (.aload_n 0, 1) := by decide +kernel
theorem d_By_at_6 : decode (mB m_By_at) 6 = .ok (.getfield 13, 3) := by decide +kernel
theorem d_By_at_9 : decode (mB m_By_at) 9 = .ok (.if_icmp .ge 16, 3) := by decide +kernel
theorem d_By_at_12 : decode (mB m_By_at) 12 = .ok (.aload_n 0, 1) := by decide +kernel
theorem d_By_at_13 : decode (mB m_By_at) 13 = .ok (.getfield 7, 3) := by decide +kernel
theorem d_By_at_16 : decode (mB m_By_at) 16 = .ok (.iload_n 1, 1) := by decide +kernel
theorem d_By_at_17 : decode (mB m_By_at) 17 = .ok (.baload, 1) := by decide +kernel
theorem d_By_at_18 : decode (mB m_By_at) 18 = .ok (.sipush 255, 3) := by decide +kernel
theorem d_By_at_21 : decode (mB m_By_at) 21 = .ok (.iand, 1) := by decide +kernel
theorem d_By_at_22 : decode (mB m_By_at) 22 = .ok (.goto 4, 3) := by decide +kernel
theorem d_By_at_25 : decode (mB m_By_at) 25 = .ok (.iconst 0, 1) := by decide +kernel
theorem d_By_at_26 : decode (mB m_By_at) 26 = .ok (.ireturn, 1) := by decide +kernel
theorem d_By_append_0 : decode (mB m_By_append) 0 = .ok (.aload_n 0, 1) := by decide +kernel
theorem d_By_append_1 : decode (mB m_By_append) 1 = .ok (.getfield 13, 3) := by decide +kernel
theorem d_By_append_4 : decode (mB m_By_append) 4 = .ok (.aload_n 0, 1) := by decide +kernel
theorem d_By_append_5 : decode (mB m_By_append) 5 = .ok (.getfield 7, 3) := by decide +kernel
theorem d_By_append_8 : decode (mB m_By_append) 8 = .ok (.arraylength, 1) := by decide +kernel
theorem d_By_append_9 : decode (mB m_By_append) 9 = .ok (.if_icmp .lt 5, 3) := by decide +kernel
theorem d_By_append_12 : decode (mB m_By_append) 12 = .ok (.iconst 0, 1) := by decide +kernel
theorem d_By_append_13 : decode (mB m_By_append) 13 = .ok (.ireturn, 1) := by decide +kernel
theorem d_By_append_14 : decode (mB m_By_append) 14 = .ok (.aload_n 0, 1) := by decide +kernel
theorem d_By_append_15 : decode (mB m_By_append) 15 = .ok (.getfield 7, 3) := by decide +kernel
theorem d_By_append_18 : decode (mB m_By_append) 18 = .ok (.aload_n 0, 1) := by decide +kernel
theorem d_By_append_19 : decode (mB m_By_append) 19 = .ok (.getfield 13, 3) := by decide +kernel
theorem d_By_append_22 : decode (mB m_By_append) 22 = .ok (.iload_n 1, 1) := by decide +kernel
theorem d_By_append_23 : decode (mB m_By_append) 23 = .ok (.i2b, 1) := by decide +kernel
theorem d_By_append_24 : decode (mB m_By_append) 24 = .ok (.bastore, 1) := by decide +kernel
theorem d_By_append_25 : decode (mB m_By_append) 25 = .ok (.aload_n 0, 1) := by decide +kernel
theorem d_By_append_26 : decode (mB m_By_append) 26 = .ok (.dup, 1) := by decide +kernel
theorem d_By_append_27 : decode (mB m_By_append) 27 = .ok (.getfield 13, 3) := by decide +kernel
theorem d_By_append_30 : decode (mB m_By_append) 30 = .ok (.iconst 1, 1) := by decide +kernel
theorem d_By_append_31 : decode (mB m_By_append) 31 = .ok (.iadd, 1) := by decide +kernel
theorem d_By_append_32 : decode (mB m_By_append) 32 = .ok (.putfield 13, 3) := by decide +kernel
theorem d_By_append_35 : decode (mB m_By_append) 35 = .ok (.iconst 1, 1) := by decide +kernel
theorem d_By_append_36 : decode (mB m_By_append) 36 = .ok (.ireturn, 1) := by decide +kernel
theorem d_By_markInLast_0 : decode (mB m_By_markInLast) 0 = .ok (.aload_n 0, 1) := by decide +kernel
theorem d_By_markInLast_1 : decode (mB m_By_markInLast) 1 = .ok (.getfield 13, 3) := by decide +kernel
theorem d_By_markInLast_4 : decode (mB m_By_markInLast) 4 = .ok (.ifCond .le 28, 3) := by decide +kernel
theorem d_By_markInLast_7 : decode (mB m_By_markInLast) 7 = .ok (.aload_n 0, 1) := by decide +kernel
theorem d_By_markInLast_8 : decode (mB m_By_markInLast) 8 = .ok (.getfield 7, 3) := by decide +kernel
theorem d_By_markInLast_11 : decode (mB m_By_markInLast) 11 = .ok (.aload_n 0, 1) := by decide +kernel
theorem d_By_markInLast_12 : decode (mB m_By_markInLast) 12 = .ok (.getfield 13, 3) := by decide +kernel
theorem d_By_markInLast_15 : decode (mB m_By_markInLast) 15 = .ok (.iconst 1, 1) := by decide +kernel
theorem d_By_markInLast_16 : decode (mB m_By_markInLast) 16 = .ok (.isub, 1) := by decide +kernel
theorem d_By_markInLast_17 : decode (mB m_By_markInLast) 17 = .ok (.aload_n 0, 1) := by decide +kernel
theorem d_By_markInLast_18 : decode (mB m_By_markInLast) 18 = .ok (.getfield 7, 3) := by decide +kernel
theorem d_By_markInLast_21 : decode (mB m_By_markInLast) 21 = .ok (.aload_n 0, 1) := by decide +kernel
theorem d_By_markInLast_22 : decode (mB m_By_markInLast) 22 = .ok (.getfield 13, 3) := by decide +kernel
theorem d_By_markInLast_25 : decode (mB m_By_markInLast) 25 = .ok (.iconst 1, 1) := by decide +kernel
theorem d_By_markInLast_26 : decode (mB m_By_markInLast) 26 = .ok (.isub, 1) := by decide +kernel
theorem d_By_markInLast_27 : decode (mB m_By_markInLast) 27 = .ok (.baload, 1) := by decide +kernel
theorem d_By_markInLast_28 : decode (mB m_By_markInLast) 28 = .ok (.iload_n 1, 1) := by decide +kernel
theorem d_By_markInLast_29 : decode (mB m_By_markInLast) 29 = .ok (.ior, 1) := by decide +kernel
theorem d_By_markInLast_30 : decode (mB m_By_markInLast) 30 = .ok (.i2b, 1) := by decide +kernel
theorem d_By_markInLast_31 : decode (mB m_By_markInLast) 31 = .ok (.bastore, 1) := by decide +kernel
theorem d_By_markInLast_32 : decode (mB m_By_markInLast) 32 = .ok (.return_, 1) := by decide +kernel
theorem d_By_shortenTo_0 : decode (mB m_By_shortenTo) 0 = .ok (.iload_n 1, 1) := by decide +kernel
theorem d_By_shortenTo_1 : decode (mB m_By_shortenTo) 1 = .ok (.ifCond .lt 16, 3) := by decide +kernel
theorem d_By_shortenTo_4 : decode (mB m_By_shortenTo) 4 = .ok (.iload_n 1, 1) := by decide +kernel
theorem d_By_shortenTo_5 : decode (mB m_By_shortenTo) 5 = .ok (.aload_n 0, 1) := by decide +kernel
theorem d_By_shortenTo_6 : decode (mB m_By_shortenTo) 6 = .ok (.getfield 13, 3) := by decide +kernel
theorem d_By_shortenTo_9 : decode (mB m_By_shortenTo) 9 = .ok (.if_icmp .ge 8, 3) := by decide +kernel
theorem d_By_shortenTo_12 : decode (mB m_By_shortenTo) 12 = .ok (.aload_n 0, 1) := by decide +kernel
theorem d_By_shortenTo_13 : decode (mB m_By_shortenTo) 13 = .ok (.iload_n 1, 1) := by decide +kernel
theorem d_By_shortenTo_14 : decode (mB m_By_shortenTo) 14 = .ok (.putfield 13, 3) := by decide +kernel
theorem d_By_shortenTo_17 : decode (mB m_By_shortenTo) 17 = .ok (.return_, 1) := by decide +kernel
theorem d_By_forgetAll_0 : decode (mB m_By_forgetAll) 0 = .ok (.aload_n 0, 1) := by decide +kernel
theorem d_By_forgetAll_1 : decode (mB m_By_forgetAll) 1 = .ok (.iconst 0, 1) := by decide +kernel
theorem d_By_forgetAll_2 : decode (mB m_By_forgetAll) 2 = .ok (.putfield 13, 3) := by decide +kernel
theorem d_By_forgetAll_5 : decode (mB m_By_forgetAll) 5 = .ok (.return_, 1) := by decide +kernel
theorem d_By_becomeLike_0 : decode (mB m_By_becomeLike) 0 = .ok (.aload_n 0, 1) := by decide +kernel
theorem d_By_becomeLike_1 : decode (mB m_By_becomeLike) 1 = .ok (.aload_n 1, 1) := by decide +kernel
theorem d_By_becomeLike_2 : decode (mB m_By_becomeLike) 2 = .ok (.getfield 13, 3) := by decide +kernel
theorem d_By_becomeLike_5 : decode (mB m_By_becomeLike) 5 = .ok (.aload_n 0, 1) := by decide +kernel
theorem d_By_becomeLike_6 : decode (mB m_By_becomeLike) 6 = .ok (.getfield 7, 3) := by decide +kernel
theorem d_By_becomeLike_9 : decode (mB m_By_becomeLike) 9 = .ok (.arraylength, 1) := by decide +kernel
theorem d_By_becomeLike_10 : decode (mB m_By_becomeLike) 10 = .ok (.invokestatic 17, 3) := by decide +kernel
theorem d_By_becomeLike_13 : decode (mB m_By_becomeLike) 13 = .ok (.putfield 13, 3) := by decide +kernel
theorem d_By_becomeLike_16 : decode (mB m_By_becomeLike) 16 = .ok (.aload_n 1, 1) := by decide +kernel
theorem d_By_becomeLike_17 : decode (mB m_By_becomeLike) 17 = .ok (.getfield 7, 3) := by decide +kernel
theorem d_By_becomeLike_20 : decode (mB m_By_becomeLike) 20 = .ok (.iconst 0, 1) := by decide +kernel
theorem d_By_becomeLike_21 : decode (mB m_By_becomeLike) 21 = .ok (.aload_n 0, 1) := by decide +kernel
theorem d_By_becomeLike_22 : decode (mB m_By_becomeLike) 22 = .ok (.getfield 7, 3) := by decide +kernel
theorem d_By_becomeLike_25 : decode (mB m_By_becomeLike) 25 = .ok (.iconst 0, 1) := by decide +kernel
theorem d_By_becomeLike_26 : decode (mB m_By_becomeLike) 26 = .ok (.aload_n 0, 1) := by decide +kernel
theorem d_By_becomeLike_27 : decode (mB m_By_becomeLike) 27 = .ok (.getfield 13, 3) := by decide +kernel
theorem d_By_becomeLike_30 : decode (mB m_By_becomeLike) 30 = .ok (.invokestatic 23, 3) := by decide +kernel
theorem d_By_becomeLike_33 : decode (mB m_By_becomeLike) 33 = .ok (.return_, 1) := by decide +kernel
theorem d_Lo_init_0 : decode (mB m_Lo_init) 0 = .ok (.aload_n 0, 1) := by decide +kernel
theorem d_Lo_init_1 : decode (mB m_Lo_init) 1 = .ok (.invokespecial 1, 3) := by decide +kernel
theorem d_Lo_init_4 : decode (mB m_Lo_init) 4 = .ok (.aload_n 0, 1) := by decide +kernel
theorem d_Lo_init_5 : decode (mB m_Lo_init) 5 = .ok (.iload_n 1, 1) := by decide +kernel
theorem d_Lo_init_6 : decode (mB m_Lo_init) 6 = .ok (.newarray .long, 2) := by decide +kernel
theorem d_Lo_init_8 : decode (mB m_Lo_init) 8 = .ok (.putfield 7, 3) := by decide +kernel
theorem d_Lo_init_11 : decode (mB m_Lo_init) 11 = .ok (.aload_n 0, 1) := by decide +kernel
theorem d_Lo_init_12 : decode (mB m_Lo_init) 12 = .ok (.iconst 0, 1) := by decide +kernel
theorem d_Lo_init_13 : decode (mB m_Lo_init) 13 = .ok (.putfield 13, 3) := by decide +kernel
theorem d_Lo_init_16 : decode (mB m_Lo_init) 16 = .ok (.return_, 1) := by decide +kernel
theorem d_Lo_at_0 : decode (mB m_Lo_at) 0 = .ok (.iload_n 1, 1) := by decide +kernel
theorem d_Lo_at_1 : decode (mB m_Lo_at) 1 = .ok (.ifCond .lt 20, 3) := by decide +kernel
theorem d_Lo_at_4 : decode (mB m_Lo_at) 4 = .ok (.iload_n 1, 1) := by decide +kernel
theorem d_Lo_at_5 : decode (mB m_Lo_at) 5 = .ok (.aload_n 0, 1) := by decide +kernel
theorem d_Lo_at_6 : decode (mB m_Lo_at) 6 = .ok (.getfield 13, 3) := by decide +kernel
theorem d_Lo_at_9 : decode (mB m_Lo_at) 9 = .ok (.if_icmp .ge 12, 3) := by decide +kernel
theorem d_Lo_at_12 : decode (mB m_Lo_at) 12 = .ok (.aload_n 0, 1) := by decide +kernel
theorem d_Lo_at_13 : decode (mB m_Lo_at) 13 = .ok (.getfield 7, 3) := by decide +kernel
theorem d_Lo_at_16 : decode (mB m_Lo_at) 16 = .ok (.iload_n 1, 1) := by decide +kernel
theorem d_Lo_at_17 : decode (mB m_Lo_at) 17 = .ok (.laload, 1) := by decide +kernel
theorem d_Lo_at_18 : decode (mB m_Lo_at) 18 = .ok (.goto 4, 3) := by decide +kernel
theorem d_Lo_at_21 : decode (mB m_Lo_at) 21 = .ok (.lconst 0, 1) := by decide +kernel
theorem d_Lo_at_22 : decode (mB m_Lo_at) 22 = .ok (.lreturn, 1) := by decide +kernel
theorem d_Lo_append_0 : decode (mB m_Lo_append) 0 = .ok (.aload_n 0, 1) := by decide +kernel
theorem d_Lo_append_1 : decode (mB m_Lo_append) 1 = .ok (.getfield 13, 3) := by decide +kernel
theorem d_Lo_append_4 : decode (mB m_Lo_append) 4 = .ok (.aload_n 0, 1) := by decide +kernel
theorem d_Lo_append_5 : decode (mB m_Lo_append) 5 = .ok (.getfield 7, 3) := by decide +kernel
theorem d_Lo_append_8 : decode (mB m_Lo_append) 8 = .ok (.arraylength, 1) := by decide +kernel
theorem d_Lo_append_9 : decode (mB m_Lo_append) 9 = .ok (.if_icmp .lt 5, 3) := by decide +kernel
theorem d_Lo_append_12 : decode (mB m_Lo_append) 12 = .ok (.iconst 0, 1) := by decide +kernel
theorem d_Lo_append_13 : decode (mB m_Lo_append) 13 = .ok (.ireturn, 1) := by decide +kernel
theorem d_Lo_append_14 : decode (mB m_Lo_append) 14 = .ok (.aload_n 0, 1) := by decide +kernel
theorem d_Lo_append_15 : decode (mB m_Lo_append) 15 = .ok (.getfield 7, 3) := by decide +kernel
theorem d_Lo_append_18 : decode (mB m_Lo_append) 18 = .ok (.aload_n 0, 1) := by decide +kernel
theorem d_Lo_append_19 : decode (mB m_Lo_append) 19 = .ok (.getfield 13, 3) := by decide +kernel
theorem d_Lo_append_22 : decode (mB m_Lo_append) 22 = .ok (.lload_n 1, 1) := by decide +kernel
theorem d_Lo_append_23 : decode (mB m_Lo_append) 23 = .ok (.lastore, 1) := by decide +kernel
theorem d_Lo_append_24 : decode (mB m_Lo_append) 24 = .ok (.aload_n 0, 1) := by decide +kernel
theorem d_Lo_append_25 : decode (mB m_Lo_append) 25 = .ok (.dup, 1) := by decide +kernel
theorem d_Lo_append_26 : decode (mB m_Lo_append) 26 = .ok (.getfield 13, 3) := by decide +kernel
theorem d_Lo_append_29 : decode (mB m_Lo_append) 29 = .ok (.iconst 1, 1) := by decide +kernel
theorem d_Lo_append_30 : decode (mB m_Lo_append) 30 = .ok (.iadd, 1) := by decide +kernel
theorem d_Lo_append_31 : decode (mB m_Lo_append) 31 = .ok (.putfield 13, 3) := by decide +kernel
theorem d_Lo_append_34 : decode (mB m_Lo_append) 34 = .ok (.iconst 1, 1) := by decide +kernel
theorem d_Lo_append_35 : decode (mB m_Lo_append) 35 = .ok (.ireturn, 1) := by decide +kernel
theorem d_Lo_replace_0 : decode (mB m_Lo_replace) 0 = .ok (.iload_n 1, 1) := by decide +kernel
theorem d_Lo_replace_1 : decode (mB m_Lo_replace) 1 = .ok (.ifCond .lt 18, 3) := by decide +kernel
theorem d_Lo_replace_4 : decode (mB m_Lo_replace) 4 = .ok (.iload_n 1, 1) := by decide +kernel
theorem d_Lo_replace_5 : decode (mB m_Lo_replace) 5 = .ok (.aload_n 0, 1) := by decide +kernel
theorem d_Lo_replace_6 : decode (mB m_Lo_replace) 6 = .ok (.getfield 13, 3) := by decide +kernel
theorem d_Lo_replace_9 : decode (mB m_Lo_replace) 9 = .ok (.if_icmp .ge 10, 3) := by decide +kernel
theorem d_Lo_replace_12 : decode (mB m_Lo_replace) 12 = .ok (.aload_n 0, 1) := by decide +kernel
theorem d_Lo_replace_13 : decode (mB m_Lo_replace) 13 = .ok (.getfield 7, 3) := by decide +kernel
theorem d_Lo_replace_16 : decode (mB m_Lo_replace) 16 = .ok (.iload_n 1, 1) := by decide +kernel
theorem d_Lo_replace_17 : decode (mB m_Lo_replace) 17 = .ok (.lload_n 2, 1) := by decide +kernel
theorem d_Lo_replace_18 : decode (mB m_Lo_replace) 18 = .ok (.lastore, 1) := by decide +kernel
theorem d_Lo_replace_19 : decode (mB m_Lo_replace) 19 = .ok (.return_, 1) := by decide +kernel
theorem d_Lo_takeOut_0 : decode (mB m_Lo_takeOut) 0 = .ok (.iload_n 1, 1) := by decide +kernel
theorem d_Lo_takeOut_1 : decode (mB m_Lo_takeOut) 1 = .ok (.ifCond .lt 58, 3) := by decide +kernel
theorem d_Lo_takeOut_4 : decode (mB m_Lo_takeOut) 4 = .ok (.iload_n 2, 1) := by decide +kernel
theorem d_Lo_takeOut_5 : decode (mB m_Lo_takeOut) 5 = .ok (.ifCond .lt 54, 3) := by decide +kernel
theorem d_Lo_takeOut_8 : decode (mB m_Lo_takeOut) 8 = .ok (.iload_n 1, 1) := by decide +kernel
theorem d_Lo_takeOut_9 : decode (mB m_Lo_takeOut) 9 = .ok (.aload_n 0, 1) := by decide +kernel
theorem d_Lo_takeOut_10 : decode (mB m_Lo_takeOut) 10 = .ok (.getfield 13, 3) := by decide +kernel
theorem d_Lo_takeOut_13 : decode (mB m_Lo_takeOut) 13 = .ok (.if_icmp .gt 46, 3) := by decide +kernel
theorem d_Lo_takeOut_16 : decode (mB m_Lo_takeOut) 16 = .ok (.iload_n 2, 1) := by decide +kernel
theorem d_Lo_takeOut_17 : decode (mB m_Lo_takeOut) 17 = .ok (.aload_n 0, 1) := by decide +kernel
theorem d_Lo_takeOut_18 : decode (mB m_Lo_takeOut) 18 = .ok (.getfield 13, 3) := by decide +kernel
theorem d_Lo_takeOut_21 : decode (mB m_Lo_takeOut) 21 = .ok (.iload_n 1, 1) := by decide +kernel
theorem d_Lo_takeOut_22 : decode (mB m_Lo_takeOut) 22 = .ok (.isub, 1) := by decide +kernel
theorem d_Lo_takeOut_23 : decode (mB m_Lo_takeOut) 23 = .ok (.if_icmp .gt 36, 3) := by decide +kernel
theorem d_Lo_takeOut_26 : decode (mB m_Lo_takeOut) 26 = .ok (.aload_n 0, 1) := by decide +kernel
theorem d_Lo_takeOut_27 : decode (mB m_Lo_takeOut) 27 = .ok (.getfield 7, 3) := by decide +kernel
theorem d_Lo_takeOut_30 : decode (mB m_Lo_takeOut) 30 = .ok (.iload_n 1, 1) := by decide +kernel
theorem d_Lo_takeOut_31 : decode (mB m_Lo_takeOut) 31 = .ok (.iload_n 2, 1) := by decide +kernel
theorem d_Lo_takeOut_32 : decode (mB m_Lo_takeOut) 32 = .ok (.iadd, 1) := by decide +kernel
theorem d_Lo_takeOut_33 : decode (mB m_Lo_takeOut) 33 = .ok (.aload_n 0, 1) := by decide +kernel
theorem d_Lo_takeOut_34 : decode (mB m_Lo_takeOut) 34 = .ok (.getfield 7, 3) := by decide +kernel
theorem d_Lo_takeOut_37 : decode (mB m_Lo_takeOut) 37 = .ok (.iload_n 1, 1) := by decide +kernel
theorem d_Lo_takeOut_38 : decode (mB m_Lo_takeOut) 38 = .ok (.aload_n 0, 1) := by decide +kernel
theorem d_Lo_takeOut_39 : decode (mB m_Lo_takeOut) 39 = .ok (.getfield 13, 3) := by decide +kernel
theorem d_Lo_takeOut_42 : decode (mB m_Lo_takeOut) 42 = .ok (.iload_n 1, 1) := by decide +kernel
theorem d_Lo_takeOut_43 : decode (mB m_Lo_takeOut) 43 = .ok (.isub, 1) := by decide +kernel
theorem d_Lo_takeOut_44 : decode (mB m_Lo_takeOut) 44 = .ok (.iload_n 2, 1) := by decide +kernel
theorem d_Lo_takeOut_45 : decode (mB m_Lo_takeOut) 45 = .ok (.isub, 1) := by decide +kernel
theorem d_Lo_takeOut_46 : decode (mB m_Lo_takeOut) 46 = .ok (.invokestatic 17, 3) := by decide +kernel
theorem d_Lo_takeOut_49 : decode (mB m_Lo_takeOut) 49 = .ok (.aload_n 0, 1) := by decide +kernel
theorem d_Lo_takeOut_50 : decode (mB m_Lo_takeOut) 50 = .ok (.dup, 1) := by decide +kernel
theorem d_Lo_takeOut_51 : decode (mB m_Lo_takeOut) 51 = .ok (.getfield 13, 3) := by decide +kernel
theorem d_Lo_takeOut_54 : decode (mB m_Lo_takeOut) 54 = .ok (.iload_n 2, 1) := by decide +kernel
theorem d_Lo_takeOut_55 : decode (mB m_Lo_takeOut) 55 = .ok (.isub, 1) := by decide +kernel
theorem d_Lo_takeOut_56 : decode (mB m_Lo_takeOut) 56 = .ok (.putfield 13, 3) := by decide +kernel
theorem d_Lo_takeOut_59 : decode (mB m_Lo_takeOut) 59 = .ok (.return_, 1) := by decide +kernel
theorem d_Lo_forgetAll_0 : decode (mB m_Lo_forgetAll) 0 = .ok (.aload_n 0, 1) := by decide +kernel
theorem d_Lo_forgetAll_1 : decode (mB m_Lo_forgetAll) 1 = .ok (.iconst 0, 1) := by decide +kernel
theorem d_Lo_forgetAll_2 : decode (mB m_Lo_forgetAll) 2 = .ok (.putfield 13, 3) := by decide +kernel
theorem d_Lo_forgetAll_5 : decode (mB m_Lo_forgetAll) 5 = .ok (.return_, 1) := by decide +kernel
theorem d_Lo_becomeLike_0 : decode (mB m_Lo_becomeLike) 0 = .ok (.aload_n 0, 1) := by decide +kernel
theorem d_Lo_becomeLike_1 : decode (mB m_Lo_becomeLike) 1 = .ok (.aload_n 1, 1) := by decide +kernel
theorem d_Lo_becomeLike_2 : decode (mB m_Lo_becomeLike) 2 = .ok (.getfield 13, 3) := by decide +kernel
theorem d_Lo_becomeLike_5 : decode (mB m_Lo_becomeLike) 5 = .ok (.aload_n 0, 1) := by decide +kernel
theorem d_Lo_becomeLike_6 : decode (mB m_Lo_becomeLike) 6 = .ok (.getfield 7, 3) := by decide +kernel
theorem d_Lo_becomeLike_9 : decode (mB m_Lo_becomeLike) 9 = .ok (.arraylength, 1) := by decide +kernel
theorem d_Lo_becomeLike_10 : decode (mB m_Lo_becomeLike) 10 = .ok (.invokestatic 23, 3) := by decide +kernel
theorem d_Lo_becomeLike_13 : decode (mB m_Lo_becomeLike) 13 = .ok (.putfield 13, 3) := by decide +kernel
theorem d_Lo_becomeLike_16 : decode (mB m_Lo_becomeLike) 16 = .ok (.aload_n 1, 1) := by decide +kernel
theorem d_Lo_becomeLike_17 : decode (mB m_Lo_becomeLike) 17 = .ok (.getfield 7, 3) := by decide +kernel
theorem d_Lo_becomeLike_20 : decode (mB m_Lo_becomeLike) 20 = .ok (.iconst 0, 1) := by decide +kernel
theorem d_Lo_becomeLike_21 : decode (mB m_Lo_becomeLike) 21 = .ok (.aload_n 0, 1) := by decide +kernel
theorem d_Lo_becomeLike_22 : decode (mB m_Lo_becomeLike) 22 = .ok (.getfield 7, 3) := by decide +kernel
theorem d_Lo_becomeLike_25 : decode (mB m_Lo_becomeLike) 25 = .ok (.iconst 0, 1) := by decide +kernel
theorem d_Lo_becomeLike_26 : decode (mB m_Lo_becomeLike) 26 = .ok (.aload_n 0, 1) := by decide +kernel
theorem d_Lo_becomeLike_27 : decode (mB m_Lo_becomeLike) 27 = .ok (.getfield 13, 3) := by decide +kernel
theorem d_Lo_becomeLike_30 : decode (mB m_Lo_becomeLike) 30 = .ok (.invokestatic 17, 3) := by decide +kernel
theorem d_Lo_becomeLike_33 : decode (mB m_Lo_becomeLike) 33 = .ok (.return_, 1) := by decide +kernel
theorem d_No_init_0 : decode (mB m_No_init) 0 = .ok (.aload_n 0, 1) := by decide +kernel
theorem d_No_init_1 : decode (mB m_No_init) 1 = .ok (.invokespecial 3, 3) := by decide +kernel
theorem d_No_init_4 : decode (mB m_No_init) 4 = .ok (.return_, 1) := by decide +kernel
theorem d_No_become_0 : decode (mB m_No_become) 0 = .ok (.aload_n 0, 1) := by decide +kernel
theorem d_No_become_1 : decode (mB m_No_become) 1 = .ok (.iload_n 1, 1) := by decide +kernel
theorem d_No_become_2 : decode (mB m_No_become) 2 = .ok (.putfield 9, 3) := by decide +kernel
theorem d_No_become_5 : decode (mB m_No_become) 5 = .ok (.aload_n 0, 1) := by decide +kernel
theorem d_No_become_6 : decode (mB m_No_become) 6 = .ok (.aload_n 2, 1) := by decide +kernel
theorem d_No_become_7 : decode (mB m_No_become) 7 = .ok (.putfield 15, 3) := by decide +kernel
theorem d_No_become_10 : decode (mB m_No_become) 10 = .ok (.aload_n 0, 1) := by decide +kernel
theorem d_No_become_11 : decode (mB m_No_become) 11 = .ok (.iload_n 3, 1) := by decide +kernel
theorem d_No_become_12 : decode (mB m_No_become) 12 = .ok (.putfield 19, 3) := by decide +kernel
theorem d_No_become_15 : decode (mB m_No_become) 15 = .ok (.aload_n 0, 1) := by decide +kernel
theorem d_No_become_16 : decode (mB m_No_become) 16 = .ok (.iconst 0, 1) := by decide +kernel
theorem d_No_become_17 : decode (mB m_No_become) 17 = .ok (.putfield 22, 3) := by decide +kernel
theorem d_No_become_20 : decode (mB m_No_become) 20 = .ok (.aload_n 0, 1) := by decide +kernel
theorem d_No_become_21 : decode (mB m_No_become) 21 = .ok (.iconst 0, 1) := by decide +kernel
theorem d_No_become_22 : decode (mB m_No_become) 22 = .ok (.putfield 25, 3) := by decide +kernel
theorem d_No_become_25 : decode (mB m_No_become) 25 = .ok (.aload_n 0, 1) := by decide +kernel
theorem d_No_become_26 : decode (mB m_No_become) 26 = .ok (.iconst (-1), 1) := by decide +kernel
theorem d_No_become_27 : decode (mB m_No_become) 27 = .ok (.putfield 28, 3) := by decide +kernel
theorem d_No_become_30 : decode (mB m_No_become) 30 = .ok (.aload_n 0, 1) := by decide +kernel
theorem d_No_become_31 : decode (mB m_No_become) 31 = .ok (.aconst_null, 1) := by decide +kernel
theorem d_No_become_32 : decode (mB m_No_become) 32 = .ok (.putfield 31, 3) := by decide +kernel
theorem d_No_become_35 : decode (mB m_No_become) 35 = .ok (.aload_n 0, 1) := by decide +kernel
theorem d_No_become_36 : decode (mB m_No_become) 36 = .ok (.aconst_null, 1) := by decide +kernel
theorem d_No_become_37 : decode (mB m_No_become) 37 = .ok (.putfield 34, 3) := by decide +kernel
theorem d_No_become_40 : decode (mB m_No_become) 40 = .ok (.aload_n 0, 1) := by decide +kernel
theorem d_No_become_41 : decode (mB m_No_become) 41 = .ok (.aconst_null, 1) := by decide +kernel
theorem d_No_become_42 : decode (mB m_No_become) 42 = .ok (.putfield 37, 3) := by decide +kernel
theorem d_No_become_45 : decode (mB m_No_become) 45 = .ok (.aload_n 0, 1) := by decide +kernel
theorem d_No_become_46 : decode (mB m_No_become) 46 = .ok (.aconst_null, 1) := by decide +kernel
theorem d_No_become_47 : decode (mB m_No_become) 47 = .ok (.putfield 40, 3) := by decide +kernel
theorem d_No_become_50 : decode (mB m_No_become) 50 = .ok (.aload_n 0, 1) := by decide +kernel
theorem d_No_become_51 : decode (mB m_No_become) 51 = .ok (.aconst_null, 1) := by decide +kernel
theorem d_No_become_52 : decode (mB m_No_become) 52 = .ok (.putfield 43, 3) := by decide +kernel
theorem d_No_become_55 : decode (mB m_No_become) 55 = .ok (.aload_n 0, 1) := by decide +kernel
theorem d_No_become_56 : decode (mB m_No_become) 56 = .ok (.lconst 0, 1) := by decide +kernel
theorem d_No_become_57 : decode (mB m_No_become) 57 = .ok (.putfield 46, 3) := by decide +kernel
theorem d_No_become_60 : decode (mB m_No_become) 60 = .ok (.aload_n 0, 1) := by decide +kernel
theorem d_No_become_61 : decode (mB m_No_become) 61 = .ok (.lconst 0, 1) := by decide +kernel
theorem d_No_become_62 : decode (mB m_No_become) 62 = .ok (.putfield 50, 3) := by decide +kernel
theorem d_No_become_65 : decode (mB m_No_become) 65 = .ok (.aload_n 0, 1) := by decide +kernel
theorem d_No_become_66 : decode (mB m_No_become) 66 = .ok (.lconst 0, 1) := by decide +kernel
theorem d_No_become_67 : decode (mB m_No_become) 67 = .ok (.putfield 53, 3) := by decide +kernel
theorem d_No_become_70 : decode (mB m_No_become) 70 = .ok (.aload_n 0, 1) := by decide +kernel
theorem d_No_become_71 : decode (mB m_No_become) 71 = .ok (.lconst 0, 1) := by decide +kernel
theorem d_No_become_72 : decode (mB m_No_become) 72 = .ok (.putfield 56, 3) := by decide +kernel
theorem d_No_become_75 : decode (mB m_No_become) 75 = .ok (.aload_n 0, 1) := by decide +kernel
theorem d_No_become_76 : decode (mB m_No_become) 76 = .ok (.lconst 0, 1) := by decide +kernel
theorem d_No_become_77 : decode (mB m_No_become) 77 = .ok (.putfield 59, 3) := by decide +kernel
theorem d_No_become_80 : decode (mB m_No_become) 80 = .ok (.return_, 1) := by decide +kernel
theorem d_No_addPart_0 : decode (mB m_No_addPart) 0 = .ok (.aload_n 1, 1) := by decide +kernel
theorem d_No_addPart_1 : decode (mB m_No_addPart) 1 = .ok (.aload_n 0, 1) := by decide +kernel
theorem d_No_addPart_2 : decode (mB m_No_addPart) 2 = .ok (.getfield 43, 3) := by decide +kernel
theorem d_No_addPart_5 : decode (mB m_No_addPart) 5 = .ok (.putfield 34, 3) := by decide +kernel
theorem d_No_addPart_8 : decode (mB m_No_addPart) 8 = .ok (.aload_n 0, 1) := by decide +kernel
theorem d_No_addPart_9 : decode (mB m_No_addPart) 9 = .ok (.getfield 43, 3) := by decide +kernel
theorem d_No_addPart_12 : decode (mB m_No_addPart) 12 = .ok (.ifnonnull 11, 3) := by decide +kernel
theorem d_No_addPart_15 : decode (mB m_No_addPart) 15 = .ok (.aload_n 0, 1) := by decide +kernel
theorem d_No_addPart_16 : decode (mB m_No_addPart) 16 = .ok (.aload_n 1, 1) := by decide +kernel
theorem d_No_addPart_17 : decode (mB m_No_addPart) 17 = .ok (.putfield 40, 3) := by decide +kernel
theorem d_No_addPart_20 : decode (mB m_No_addPart) 20 = .ok (.goto 11, 3) := by decide +kernel
theorem d_No_addPart_23 : decode (mB m_No_addPart) 23 = .ok (.aload_n 0, 1) := by decide +kernel
theorem d_No_addPart_24 : decode (mB m_No_addPart) 24 = .ok (.getfield 43, 3) := by decide +kernel
theorem d_No_addPart_27 : decode (mB m_No_addPart) 27 = .ok (.aload_n 1, 1) := by decide +kernel
theorem d_No_addPart_28 : decode (mB m_No_addPart) 28 = .ok (.putfield 37, 3) := by decide +kernel
theorem d_No_addPart_31 : decode (mB m_No_addPart) 31 = .ok (.aload_n 0, 1) := by decide +kernel
theorem d_No_addPart_32 : decode (mB m_No_addPart) 32 = .ok (.aload_n 1, 1) := by decide +kernel
theorem d_No_addPart_33 : decode (mB m_No_addPart) 33 = .ok (.putfield 43, 3) := by decide +kernel
theorem d_No_addPart_36 : decode (mB m_No_addPart) 36 = .ok (.return_, 1) := by decide +kernel
theorem d_No_isPartOf_0 : decode (mB m_No_isPartOf) 0 = .ok (.aload_n 0, 1) := by decide +kernel
theorem d_No_isPartOf_1 : decode (mB m_No_isPartOf) 1 = .ok (.getfield 15, 3) := by decide +kernel
theorem d_No_isPartOf_4 : decode (mB m_No_isPartOf) 4 = .ok (.ifnull 18, 3) := by decide +kernel
theorem d_No_isPartOf_7 : decode (mB m_No_isPartOf) 7 = .ok (.aload_n 0, 1) := by decide +kernel
theorem d_No_isPartOf_8 : decode (mB m_No_isPartOf) 8 = .ok (.getfield 15, 3) := by decide +kernel
theorem d_No_isPartOf_11 : decode (mB m_No_isPartOf) 11 = .ok (.getfield 9, 3) := by decide +kernel
theorem d_No_isPartOf_14 : decode (mB m_No_isPartOf) 14 = .ok (.iload_n 1, 1) := by decide +kernel
theorem d_No_isPartOf_15 : decode (mB m_No_isPartOf) 15 = .ok (.if_icmp .ne 7, 3) := by decide +kernel
theorem d_No_isPartOf_18 : decode (mB m_No_isPartOf) 18 = .ok (.iconst 1, 1) := by decide +kernel
theorem d_No_isPartOf_19 : decode (mB m_No_isPartOf) 19 = .ok (.goto 4, 3) := by decide +kernel
theorem d_No_isPartOf_22 : decode (mB m_No_isPartOf) 22 = .ok (.iconst 0, 1) := by decide +kernel
theorem d_No_isPartOf_23 : decode (mB m_No_isPartOf) 23 = .ok (.ireturn, 1) := by decide +kernel
theorem d_No_mayBeNegative_0 : decode (mB m_No_mayBeNegative) 0 = .ok (.aload_n 0, 1) := by decide +kernel
theorem d_No_mayBeNegative_1 : decode (mB m_No_mayBeNegative) 1 = .ok (.getfield 9, 3) := by decide +kernel
theorem d_No_mayBeNegative_4 : decode (mB m_No_mayBeNegative) 4 = .ok (.bipush 115, 2) := by decide +kernel
theorem d_No_mayBeNegative_6 : decode (mB m_No_mayBeNegative) 6 = .ok (.if_icmp .eq 21, 3) := by decide +kernel
theorem d_No_mayBeNegative_9 : decode (mB m_No_mayBeNegative) 9 = .ok (.aload_n 0, 1) := by decide +kernel
theorem d_No_mayBeNegative_10 : decode (mB m_No_mayBeNegative) 10 = .ok (.getfield 9, 3) := by decide +kernel
theorem d_No_mayBeNegative_13 : decode (mB m_No_mayBeNegative) 13 = .ok (.bipush 102, 2) := by decide +kernel
theorem d_No_mayBeNegative_15 : decode (mB m_No_mayBeNegative) 15 = .ok (.if_icmp .eq 12, 3) := by decide +kernel
theorem d_No_mayBeNegative_18 : decode (mB m_No_mayBeNegative) 18 = .ok (.aload_n 0, 1) := by decide +kernel
theorem d_No_mayBeNegative_19 : decode (mB m_No_mayBeNegative) 19 = .ok (.getfield 9, 3) := by decide +kernel
theorem d_No_mayBeNegative_22 : decode (mB m_No_mayBeNegative) 22 = .ok (.bipush 100, 2) := by decide +kernel
theorem d_No_mayBeNegative_24 : decode (mB m_No_mayBeNegative) 24 = .ok (.if_icmp .ne 7, 3) := by decide +kernel
theorem d_No_mayBeNegative_27 : decode (mB m_No_mayBeNegative) 27 = .ok (.iconst 1, 1) := by decide +kernel
theorem d_No_mayBeNegative_28 : decode (mB m_No_mayBeNegative) 28 = .ok (.goto 4, 3) := by decide +kernel
theorem d_No_mayBeNegative_31 : decode (mB m_No_mayBeNegative) 31 = .ok (.iconst 0, 1) := by decide +kernel
theorem d_No_mayBeNegative_32 : decode (mB m_No_mayBeNegative) 32 = .ok (.ireturn, 1) := by decide +kernel
theorem d_No_canBeMeant_0 : decode (mB m_No_canBeMeant) 0 = .ok (.aload_n 0, 1) := by decide +kernel
theorem d_No_canBeMeant_1 : decode (mB m_No_canBeMeant) 1 = .ok (.getfield 9, 3) := by decide +kernel
theorem d_No_canBeMeant_4 : decode (mB m_No_canBeMeant) 4 = .ok (.bipush 117, 2) := by decide +kernel
theorem d_No_canBeMeant_6 : decode (mB m_No_canBeMeant) 6 = .ok (.if_icmp .eq 30, 3) := by decide +kernel
theorem d_No_canBeMeant_9 : decode (mB m_No_canBeMeant) 9 = .ok (.aload_n 0, 1) := by decide +kernel
theorem d_No_canBeMeant_10 : decode (mB m_No_canBeMeant) 10 = .ok (.getfield 9, 3) := by decide +kernel
theorem d_No_canBeMeant_13 : decode (mB m_No_canBeMeant) 13 = .ok (.bipush 118, 2) := by decide +kernel
theorem d_No_canBeMeant_15 : decode (mB m_No_canBeMeant) 15 = .ok (.if_icmp .eq 21, 3) := by decide +kernel
theorem d_No_canBeMeant_18 : decode (mB m_No_canBeMeant) 18 = .ok (.aload_n 0, 1) := by decide +kernel
theorem d_No_canBeMeant_19 : decode (mB m_No_canBeMeant) 19 = .ok (.getfield 9, 3) := by decide +kernel
theorem d_No_canBeMeant_22 : decode (mB m_No_canBeMeant) 22 = .ok (.bipush 115, 2) := by decide +kernel
theorem d_No_canBeMeant_24 : decode (mB m_No_canBeMeant) 24 = .ok (.if_icmp .eq 12, 3) := by decide +kernel
theorem d_No_canBeMeant_27 : decode (mB m_No_canBeMeant) 27 = .ok (.aload_n 0, 1) := by decide +kernel
theorem d_No_canBeMeant_28 : decode (mB m_No_canBeMeant) 28 = .ok (.getfield 9, 3) := by decide +kernel
theorem d_No_canBeMeant_31 : decode (mB m_No_canBeMeant) 31 = .ok (.bipush 112, 2) := by decide +kernel
theorem d_No_canBeMeant_33 : decode (mB m_No_canBeMeant) 33 = .ok (.if_icmp .ne 7, 3) := by decide +kernel
theorem d_No_canBeMeant_36 : decode (mB m_No_canBeMeant) 36 = .ok (.iconst 1, 1) := by decide +kernel
theorem d_No_canBeMeant_37 : decode (mB m_No_canBeMeant) 37 = .ok (.goto 4, 3) := by decide +kernel
theorem d_No_canBeMeant_40 : decode (mB m_No_canBeMeant) 40 = .ok (.iconst 0, 1) := by decide +kernel
theorem d_No_canBeMeant_41 : decode (mB m_No_canBeMeant) 41 = .ok (.ireturn, 1) := by decide +kernel
theorem d_No_hasKey_0 : decode (mB m_No_hasKey) 0 = .ok (.aload_n 0, 1) := by decide +kernel
theorem d_No_hasKey_1 : decode (mB m_No_hasKey) 1 = .ok (.getfield 9, 3) := by decide +kernel
theorem d_No_hasKey_4 : decode (mB m_No_hasKey) 4 = .ok (.bipush 42, 2) := by decide +kernel
theorem d_No_hasKey_6 : decode (mB m_No_hasKey) 6 = .ok (.if_icmp .eq 21, 3) := by decide +kernel
theorem d_No_hasKey_9 : decode (mB m_No_hasKey) 9 = .ok (.aload_n 0, 1) := by decide +kernel
theorem d_No_hasKey_10 : decode (mB m_No_hasKey) 10 = .ok (.getfield 9, 3) := by decide +kernel
theorem d_No_hasKey_13 : decode (mB m_No_hasKey) 13 = .ok (.bipush 47, 2) := by decide +kernel
theorem d_No_hasKey_15 : decode (mB m_No_hasKey) 15 = .ok (.if_icmp .eq 12, 3) := by decide +kernel
theorem d_No_hasKey_18 : decode (mB m_No_hasKey) 18 = .ok (.aload_n 0, 1) := by decide +kernel
theorem d_No_hasKey_19 : decode (mB m_No_hasKey) 19 = .ok (.getfield 9, 3) := by decide +kernel
theorem d_No_hasKey_22 : decode (mB m_No_hasKey) 22 = .ok (.bipush 63, 2) := by decide +kernel
theorem d_No_hasKey_24 : decode (mB m_No_hasKey) 24 = .ok (.if_icmp .ne 7, 3) := by decide +kernel
theorem d_No_hasKey_27 : decode (mB m_No_hasKey) 27 = .ok (.iconst 1, 1) := by decide +kernel
theorem d_No_hasKey_28 : decode (mB m_No_hasKey) 28 = .ok (.goto 4, 3) := by decide +kernel
theorem d_No_hasKey_31 : decode (mB m_No_hasKey) 31 = .ok (.iconst 0, 1) := by decide +kernel
theorem d_No_hasKey_32 : decode (mB m_No_hasKey) 32 = .ok (.ireturn, 1) := by decide +kernel
theorem d_No_widenTo_0 : decode (mB m_No_widenTo) 0 = .ok (.aload_n 0, 1) := by decide +kernel
theorem d_No_widenTo_1 : decode (mB m_No_widenTo) 1 = .ok (.iload_n 1, 1) := by decide +kernel
theorem d_No_widenTo_2 : decode (mB m_No_widenTo) 2 = .ok (.putfield 22, 3) := by decide +kernel
theorem d_No_widenTo_5 : decode (mB m_No_widenTo) 5 = .ok (.aload_n 0, 1) := by decide +kernel
theorem d_No_widenTo_6 : decode (mB m_No_widenTo) 6 = .ok (.getfield 9, 3) := by decide +kernel
theorem d_No_widenTo_9 : decode (mB m_No_widenTo) 9 = .ok (.bipush 112, 2) := by decide +kernel
theorem d_No_widenTo_11 : decode (mB m_No_widenTo) 11 = .ok (.if_icmp .ne 10, 3) := by decide +kernel
theorem d_No_widenTo_14 : decode (mB m_No_widenTo) 14 = .ok (.aload_n 0, 1) := by decide +kernel
theorem d_No_widenTo_15 : decode (mB m_No_widenTo) 15 = .ok (.getfield 22, 3) := by decide +kernel
theorem d_No_widenTo_18 : decode (mB m_No_widenTo) 18 = .ok (.goto 10, 3) := by decide +kernel
theorem d_No_widenTo_21 : decode (mB m_No_widenTo) 21 = .ok (.bipush 8, 2) := by decide +kernel
theorem d_No_widenTo_23 : decode (mB m_No_widenTo) 23 = .ok (.aload_n 0, 1) := by decide +kernel
theorem d_No_widenTo_24 : decode (mB m_No_widenTo) 24 = .ok (.getfield 22, 3) := by decide +kernel
theorem d_No_widenTo_27 : decode (mB m_No_widenTo) 27 = .ok (.imul, 1) := by decide +kernel
theorem d_No_widenTo_28 : decode (mB m_No_widenTo) 28 = .ok (.istore_n 2, 1) := by decide +kernel
theorem d_No_widenTo_29 : decode (mB m_No_widenTo) 29 = .ok (.aload_n 0, 1) := by decide +kernel
theorem d_No_widenTo_30 : decode (mB m_No_widenTo) 30 = .ok (.invokevirtual 62, 3) := by decide +kernel
theorem d_No_widenTo_33 : decode (mB m_No_widenTo) 33 = .ok (.ifCond .eq 29, 3) := by decide +kernel
theorem d_No_widenTo_36 : decode (mB m_No_widenTo) 36 = .ok (.aload_n 0, 1) := by decide +kernel
theorem d_No_widenTo_37 : decode (mB m_No_widenTo) 37 = .ok (.ldc2_w 66, 3) := by decide +kernel
theorem d_No_widenTo_40 : decode (mB m_No_widenTo) 40 = .ok (.iload_n 2, 1) := by decide +kernel
theorem d_No_widenTo_41 : decode (mB m_No_widenTo) 41 = .ok (.iconst 1, 1) := by decide +kernel
theorem d_No_widenTo_42 : decode (mB m_No_widenTo) 42 = .ok (.isub, 1) := by decide +kernel
theorem d_No_widenTo_43 : decode (mB m_No_widenTo) 43 = .ok (.lshl, 1) := by decide +kernel
theorem d_No_widenTo_44 : decode (mB m_No_widenTo) 44 = .ok (.putfield 46, 3) := by decide +kernel
theorem d_No_widenTo_47 : decode (mB m_No_widenTo) 47 = .ok (.aload_n 0, 1) := by decide +kernel
theorem d_No_widenTo_48 : decode (mB m_No_widenTo) 48 = .ok (.aload_n 0, 1) := by decide +kernel
theorem d_No_widenTo_49 : decode (mB m_No_widenTo) 49 = .ok (.getfield 46, 3) := by decide +kernel
theorem d_No_widenTo_52 : decode (mB m_No_widenTo) 52 = .ok (.ldc2_w 66, 3) := by decide +kernel
theorem d_No_widenTo_55 : decode (mB m_No_widenTo) 55 = .ok (.lxor, 1) := by decide +kernel
theorem d_No_widenTo_56 : decode (mB m_No_widenTo) 56 = .ok (.putfield 50, 3) := by decide +kernel
theorem d_No_widenTo_59 : decode (mB m_No_widenTo) 59 = .ok (.goto 17, 3) := by decide +kernel
theorem d_No_widenTo_62 : decode (mB m_No_widenTo) 62 = .ok (.aload_n 0, 1) := by decide +kernel
theorem d_No_widenTo_63 : decode (mB m_No_widenTo) 63 = .ok (.lconst 0, 1) := by decide +kernel
theorem d_No_widenTo_64 : decode (mB m_No_widenTo) 64 = .ok (.putfield 46, 3) := by decide +kernel
theorem d_No_widenTo_67 : decode (mB m_No_widenTo) 67 = .ok (.aload_n 0, 1) := by decide +kernel
theorem d_No_widenTo_68 : decode (mB m_No_widenTo) 68 = .ok (.lconst 1, 1) := by decide +kernel
theorem d_No_widenTo_69 : decode (mB m_No_widenTo) 69 = .ok (.iload_n 2, 1) := by decide +kernel
theorem d_No_widenTo_70 : decode (mB m_No_widenTo) 70 = .ok (.lshl, 1) := by decide +kernel
theorem d_No_widenTo_71 : decode (mB m_No_widenTo) 71 = .ok (.lconst 1, 1) := by decide +kernel
theorem d_No_widenTo_72 : decode (mB m_No_widenTo) 72 = .ok (.lsub, 1) := by decide +kernel
theorem d_No_widenTo_73 : decode (mB m_No_widenTo) 73 = .ok (.putfield 50, 3) := by decide +kernel
theorem d_No_widenTo_76 : decode (mB m_No_widenTo) 76 = .ok (.return_, 1) := by decide +kernel
theorem d_No_limitTo_0 : decode (mB m_No_limitTo) 0 = .ok (.iload_n 1, 1) := by decide +kernel
theorem d_No_limitTo_1 : decode (mB m_No_limitTo) 1 = .ok (.bipush 60, 2) := by decide +kernel
theorem d_No_limitTo_3 : decode (mB m_No_limitTo) 3 = .ok (.if_icmp .eq 29, 3) := by decide +kernel
theorem d_No_limitTo_6 : decode (mB m_No_limitTo) 6 = .ok (.aload_n 0, 1) := by decide +kernel
theorem d_No_limitTo_7 : decode (mB m_No_limitTo) 7 = .ok (.aload_n 0, 1) := by decide +kernel
theorem d_No_limitTo_8 : decode (mB m_No_limitTo) 8 = .ok (.getfield 46, 3) := by decide +kernel
theorem d_No_limitTo_11 : decode (mB m_No_limitTo) 11 = .ok (.iload_n 1, 1) := by decide +kernel
theorem d_No_limitTo_12 : decode (mB m_No_limitTo) 12 = .ok (.bipush 62, 2) := by decide +kernel
theorem d_No_limitTo_14 : decode (mB m_No_limitTo) 14 = .ok (.if_icmp .ne 10, 3) := by decide +kernel
theorem d_No_limitTo_17 : decode (mB m_No_limitTo) 17 = .ok (.iload_n 2, 1) := by decide +kernel
theorem d_No_limitTo_18 : decode (mB m_No_limitTo) 18 = .ok (.iconst 1, 1) := by decide +kernel
theorem d_No_limitTo_19 : decode (mB m_No_limitTo) 19 = .ok (.iadd, 1) := by decide +kernel
theorem d_No_limitTo_20 : decode (mB m_No_limitTo) 20 = .ok (.i2l, 1) := by decide +kernel
theorem d_No_limitTo_21 : decode (mB m_No_limitTo) 21 = .ok (.goto 5, 3) := by decide +kernel
theorem d_No_limitTo_24 : decode (mB m_No_limitTo) 24 = .ok (.iload_n 2, 1) := by decide +kernel
theorem d_No_limitTo_25 : decode (mB m_No_limitTo) 25 = .ok (.i2l, 1) := by decide +kernel
theorem d_No_limitTo_26 : decode (mB m_No_limitTo) 26 = .ok (.invokestatic 68, 3) := by decide +kernel
theorem d_No_limitTo_29 : decode (mB m_No_limitTo) 29 = .ok (.putfield 46, 3) := by decide +kernel
theorem d_No_limitTo_32 : decode (mB m_No_limitTo) 32 = .ok (.iload_n 1, 1) := by decide +kernel
theorem d_No_limitTo_33 : decode (mB m_No_limitTo) 33 = .ok (.bipush 62, 2) := by decide +kernel
theorem d_No_limitTo_35 : decode (mB m_No_limitTo) 35 = .ok (.if_icmp .eq 29, 3) := by decide +kernel
theorem d_No_limitTo_38 : decode (mB m_No_limitTo) 38 = .ok (.aload_n 0, 1) := by decide +kernel
theorem d_No_limitTo_39 : decode (mB m_No_limitTo) 39 = .ok (.aload_n 0, 1) := by decide +kernel
theorem d_No_limitTo_40 : decode (mB m_No_limitTo) 40 = .ok (.getfield 50, 3) := by decide +kernel
theorem d_No_limitTo_43 : decode (mB m_No_limitTo) 43 = .ok (.iload_n 1, 1) := by decide +kernel
theorem d_No_limitTo_44 : decode (mB m_No_limitTo) 44 = .ok (.bipush 60, 2) := by decide +kernel
theorem d_No_limitTo_46 : decode (mB m_No_limitTo) 46 = .ok (.if_icmp .ne 10, 3) := by decide +kernel
theorem d_No_limitTo_49 : decode (mB m_No_limitTo) 49 = .ok (.iload_n 2, 1) := by decide +kernel
theorem d_No_limitTo_50 : decode (mB m_No_limitTo) 50 = .ok (.iconst 1, 1) := by decide +kernel
theorem d_No_limitTo_51 : decode (mB m_No_limitTo) 51 = .ok (.isub, 1) := by decide +kernel
theorem d_No_limitTo_52 : decode (mB m_No_limitTo) 52 = .ok (.i2l, 1) := by decide +kernel
theorem d_No_limitTo_53 : decode (mB m_No_limitTo) 53 = .ok (.goto 5, 3) := by decide +kernel
theorem d_No_limitTo_56 : decode (mB m_No_limitTo) 56 = .ok (.iload_n 2, 1) := by decide +kernel
theorem d_No_limitTo_57 : decode (mB m_No_limitTo) 57 = .ok (.i2l, 1) := by decide +kernel
theorem d_No_limitTo_58 : decode (mB m_No_limitTo) 58 = .ok (.invokestatic 74, 3) := by decide +kernel
theorem d_No_limitTo_61 : decode (mB m_No_limitTo) 61 = .ok (.putfield 50, 3) := by decide +kernel
theorem d_No_limitTo_64 : decode (mB m_No_limitTo) 64 = .ok (.return_, 1) := by decide +kernel
theorem d_No_holds_0 : decode (mB m_No_holds) 0 = .ok (.lload_n 1, 1) := by decide +kernel
theorem d_No_holds_1 : decode (mB m_No_holds) 1 = .ok (.aload_n 0, 1) := by decide +kernel
theorem d_No_holds_2 : decode (mB m_No_holds) 2 = .ok (.getfield 46, 3) := by decide +kernel
theorem d_No_holds_5 : decode (mB m_No_holds) 5 = .ok (.lcmp, 1) := by decide +kernel
theorem d_No_holds_6 : decode (mB m_No_holds) 6 = .ok (.ifCond .lt 16, 3) := by decide +kernel
theorem d_No_holds_9 : decode (mB m_No_holds) 9 = .ok (.lload_n 1, 1) := by decide +kernel
theorem d_No_holds_10 : decode (mB m_No_holds) 10 = .ok (.aload_n 0, 1) := by decide +kernel
theorem d_No_holds_11 : decode (mB m_No_holds) 11 = .ok (.getfield 50, 3) := by decide +kernel
theorem d_No_holds_14 : decode (mB m_No_holds) 14 = .ok (.lcmp, 1) := by decide +kernel
theorem d_No_holds_15 : decode (mB m_No_holds) 15 = .ok (.ifCond .gt 7, 3) := by decide +kernel
theorem d_No_holds_18 : decode (mB m_No_holds) 18 = .ok (.iconst 1, 1) := by decide +kernel
theorem d_No_holds_19 : decode (mB m_No_holds) 19 = .ok (.goto 4, 3) := by decide +kernel
theorem d_No_holds_22 : decode (mB m_No_holds) 22 = .ok (.iconst 0, 1) := by decide +kernel
theorem d_No_holds_23 : decode (mB m_No_holds) 23 = .ok (.ireturn, 1) := by decide +kernel
