theorem d_La_type_0 : decode (mB m_La_type) 0 = .ok (.aload_n 3, 1) := by decide +kernel
theorem d_La_type_1 : decode (mB m_La_type) 1 = .ok (.iconst 0, 1) := by decide +kernel
theorem d_La_type_2 : decode (mB m_La_type) 2 = .ok (.aload_n 0, 1) := by decide +kernel
theorem d_La_type_3 : decode (mB m_La_type) 3 = .ok (.lload_n 1, 1) := by decide +kernel
theorem d_La_type_4 : decode (mB m_La_type) 4 = .ok (.invokevirtual 7, 3) := by decide +kernel
theorem d_La_type_7 : decode (mB m_La_type) 7 = .ok (.i2l, 1) := by decide +kernel
theorem d_La_type_8 : decode (mB m_La_type) 8 = .ok (.lastore, 1) := by decide +kernel
theorem d_La_type_9 : decode (mB m_La_type) 9 = .ok (.goto 11, 3) := by decide +kernel
theorem d_La_type_12 : decode (mB m_La_type) 12 = .ok (.astore 4, 2) := by decide +kernel
theorem d_La_type_14 : decode (mB m_La_type) 14 = .ok (.iconst 1, 1) := by decide +kernel
theorem d_La_type_15 : decode (mB m_La_type) 15 = .ok (.ireturn, 1) := by decide +kernel
theorem d_La_type_16 : decode (mB m_La_type) 16 = .ok (.astore 4, 2) := by decide +kernel
theorem d_La_type_18 : decode (mB m_La_type) 18 = .ok (.iconst 2, 1) := by decide +kernel
theorem d_La_type_19 : decode (mB m_La_type) 19 = .ok (.ireturn, 1) := by decide +kernel
theorem d_La_type_20 : decode (mB m_La_type) 20 = .ok (.iconst 0, 1) := by decide +kernel
theorem d_La_type_21 : decode (mB m_La_type) 21 = .ok (.ireturn, 1) := by decide +kernel
theorem d_La_compile_0 : decode (mB m_La_compile) 0 = .ok (.aload_n 1, 1) := by decide +kernel
theorem d_La_compile_1 : decode (mB m_La_compile) 1 = .ok (.iconst 0, 1) := by decide +kernel
theorem d_La_compile_2 : decode (mB m_La_compile) 2 = .ok (.aload_n 0, 1) := by decide +kernel
theorem d_La_compile_3 : decode (mB m_La_compile) 3 = .ok (.invokevirtual 17, 3) := by decide +kernel
theorem d_La_compile_6 : decode (mB m_La_compile) 6 = .ok (.i2l, 1) := by decide +kernel
theorem d_La_compile_7 : decode (mB m_La_compile) 7 = .ok (.lastore, 1) := by decide +kernel
theorem d_La_compile_8 : decode (mB m_La_compile) 8 = .ok (.goto 9, 3) := by decide +kernel
theorem d_La_compile_11 : decode (mB m_La_compile) 11 = .ok (.astore_n 2, 1) := by decide +kernel
theorem d_La_compile_12 : decode (mB m_La_compile) 12 = .ok (.iconst 1, 1) := by decide +kernel
theorem d_La_compile_13 : decode (mB m_La_compile) 13 = .ok (.ireturn, 1) := by decide +kernel
theorem d_La_compile_14 : decode (mB m_La_compile) 14 = .ok (.astore_n 2, 1) := by decide +kernel
theorem d_La_compile_15 : decode (mB m_La_compile) 15 = .ok (.iconst 2, 1) := by decide +kernel
theorem d_La_compile_16 : decode (mB m_La_compile) 16 = .ok (.ireturn, 1) := by decide +kernel
theorem d_La_compile_17 : decode (mB m_La_compile) 17 = .ok (.iconst 0, 1) := by decide +kernel
theorem d_La_compile_18 : decode (mB m_La_compile) 18 = .ok (.ireturn, 1) := by decide +kernel
theorem d_La_size_0 : decode (mB m_La_size) 0 = .ok (.aload_n 2, 1) := by decide +kernel
theorem d_La_size_1 : decode (mB m_La_size) 1 = .ok (.iconst 0, 1) := by decide +kernel
theorem d_La_size_2 : decode (mB m_La_size) 2 = .ok (.aload_n 0, 1) := by decide +kernel
theorem d_La_size_3 : decode (mB m_La_size) 3 = .ok (.iload_n 1, 1) := by decide +kernel
theorem d_La_size_4 : decode (mB m_La_size) 4 = .ok (.invokevirtual 23, 3) := by decide +kernel
theorem d_La_size_7 : decode (mB m_La_size) 7 = .ok (.i2l, 1) := by decide +kernel
theorem d_La_size_8 : decode (mB m_La_size) 8 = .ok (.lastore, 1) := by decide +kernel
theorem d_La_size_9 : decode (mB m_La_size) 9 = .ok (.goto 6, 3) := by decide +kernel
theorem d_La_size_12 : decode (mB m_La_size) 12 = .ok (.astore_n 3, 1) := by decide +kernel
theorem d_La_size_13 : decode (mB m_La_size) 13 = .ok (.iconst 1, 1) := by decide +kernel
theorem d_La_size_14 : decode (mB m_La_size) 14 = .ok (.ireturn, 1) := by decide +kernel
theorem d_La_size_15 : decode (mB m_La_size) 15 = .ok (.iconst 0, 1) := by decide +kernel
theorem d_La_size_16 : decode (mB m_La_size) 16 = .ok (.ireturn, 1) := by decide +kernel
theorem d_La_put_0 : decode (mB m_La_put) 0 = .ok (.aload 4, 2) := by decide +kernel
theorem d_La_put_2 : decode (mB m_La_put) 2 = .ok (.iconst 0, 1) := by decide +kernel
theorem d_La_put_3 : decode (mB m_La_put) 3 = .ok (.aload_n 0, 1) := by decide +kernel
theorem d_La_put_4 : decode (mB m_La_put) 4 = .ok (.lload_n 1, 1) := by decide +kernel
theorem d_La_put_5 : decode (mB m_La_put) 5 = .ok (.iload_n 3, 1) := by decide +kernel
theorem d_La_put_6 : decode (mB m_La_put) 6 = .ok (.invokevirtual 29, 3) := by decide +kernel
theorem d_La_put_9 : decode (mB m_La_put) 9 = .ok (.i2l, 1) := by decide +kernel
theorem d_La_put_10 : decode (mB m_La_put) 10 = .ok (.lastore, 1) := by decide +kernel
theorem d_La_put_11 : decode (mB m_La_put) 11 = .ok (.goto 11, 3) := by decide +kernel
theorem d_La_put_14 : decode (mB m_La_put) 14 = .ok (.astore 5, 2) := by decide +kernel
theorem d_La_put_16 : decode (mB m_La_put) 16 = .ok (.iconst 1, 1) := by decide +kernel
theorem d_La_put_17 : decode (mB m_La_put) 17 = .ok (.ireturn, 1) := by decide +kernel
theorem d_La_put_18 : decode (mB m_La_put) 18 = .ok (.astore 5, 2) := by decide +kernel
theorem d_La_put_20 : decode (mB m_La_put) 20 = .ok (.iconst 2, 1) := by decide +kernel
theorem d_La_put_21 : decode (mB m_La_put) 21 = .ok (.ireturn, 1) := by decide +kernel
theorem d_La_put_22 : decode (mB m_La_put) 22 = .ok (.iconst 0, 1) := by decide +kernel
theorem d_La_put_23 : decode (mB m_La_put) 23 = .ok (.ireturn, 1) := by decide +kernel
theorem d_La_cut_0 : decode (mB m_La_cut) 0 = .ok (.aload_n 2, 1) := by decide +kernel
theorem d_La_cut_1 : decode (mB m_La_cut) 1 = .ok (.iconst 0, 1) := by decide +kernel
theorem d_La_cut_2 : decode (mB m_La_cut) 2 = .ok (.aload_n 0, 1) := by decide +kernel
theorem d_La_cut_3 : decode (mB m_La_cut) 3 = .ok (.iload_n 1, 1) := by decide +kernel
theorem d_La_cut_4 : decode (mB m_La_cut) 4 = .ok (.invokevirtual 33, 3) := by decide +kernel
theorem d_La_cut_7 : decode (mB m_La_cut) 7 = .ok (.i2l, 1) := by decide +kernel
theorem d_La_cut_8 : decode (mB m_La_cut) 8 = .ok (.lastore, 1) := by decide +kernel
theorem d_La_cut_9 : decode (mB m_La_cut) 9 = .ok (.goto 6, 3) := by decide +kernel
theorem d_La_cut_12 : decode (mB m_La_cut) 12 = .ok (.astore_n 3, 1) := by decide +kernel
theorem d_La_cut_13 : decode (mB m_La_cut) 13 = .ok (.iconst 1, 1) := by decide +kernel
theorem d_La_cut_14 : decode (mB m_La_cut) 14 = .ok (.ireturn, 1) := by decide +kernel
theorem d_La_cut_15 : decode (mB m_La_cut) 15 = .ok (.iconst 0, 1) := by decide +kernel
theorem d_La_cut_16 : decode (mB m_La_cut) 16 = .ok (.ireturn, 1) := by decide +kernel
theorem d_La_read_0 : decode (mB m_La_read) 0 = .ok (.aload_n 1, 1) := by decide +kernel
theorem d_La_read_1 : decode (mB m_La_read) 1 = .ok (.iconst 0, 1) := by decide +kernel
theorem d_La_read_2 : decode (mB m_La_read) 2 = .ok (.aload_n 0, 1) := by decide +kernel
theorem d_La_read_3 : decode (mB m_La_read) 3 = .ok (.invokevirtual 37, 3) := by decide +kernel
theorem d_La_read_6 : decode (mB m_La_read) 6 = .ok (.i2l, 1) := by decide +kernel
theorem d_La_read_7 : decode (mB m_La_read) 7 = .ok (.lastore, 1) := by decide +kernel
theorem d_La_read_8 : decode (mB m_La_read) 8 = .ok (.goto 15, 3) := by decide +kernel
theorem d_La_read_11 : decode (mB m_La_read) 11 = .ok (.astore_n 2, 1) := by decide +kernel
theorem d_La_read_12 : decode (mB m_La_read) 12 = .ok (.iconst 1, 1) := by decide +kernel
theorem d_La_read_13 : decode (mB m_La_read) 13 = .ok (.ireturn, 1) := by decide +kernel
theorem d_La_read_14 : decode (mB m_La_read) 14 = .ok (.astore_n 2, 1) := by decide +kernel
theorem d_La_read_15 : decode (mB m_La_read) 15 = .ok (.iconst 2, 1) := by decide +kernel
theorem d_La_read_16 : decode (mB m_La_read) 16 = .ok (.ireturn, 1) := by decide +kernel
theorem d_La_read_17 : decode (mB m_La_read) 17 = .ok (.astore_n 2, 1) := by decide +kernel
theorem d_La_read_18 : decode (mB m_La_read) 18 = .ok (.iconst 3, 1) := by decide +kernel
theorem d_La_read_19 : decode (mB m_La_read) 19 = .ok (.ireturn, 1) := by decide +kernel
theorem d_La_read_20 : decode (mB m_La_read) 20 = .ok (.astore_n 2, 1) := by decide +kernel
theorem d_La_read_21 : decode (mB m_La_read) 21 = .ok (.iconst 4, 1) := by decide +kernel
theorem d_La_read_22 : decode (mB m_La_read) 22 = .ok (.ireturn, 1) := by decide +kernel
theorem d_La_read_23 : decode (mB m_La_read) 23 = .ok (.iconst 0, 1) := by decide +kernel
theorem d_La_read_24 : decode (mB m_La_read) 24 = .ok (.ireturn, 1) := by decide +kernel
theorem d_La_write_0 : decode (mB m_La_write) 0 = .ok (.aload_n 1, 1) := by decide +kernel
theorem d_La_write_1 : decode (mB m_La_write) 1 = .ok (.iconst 0, 1) := by decide +kernel
theorem d_La_write_2 : decode (mB m_La_write) 2 = .ok (.aload_n 0, 1) := by decide +kernel
theorem d_La_write_3 : decode (mB m_La_write) 3 = .ok (.invokevirtual 42, 3) := by decide +kernel
theorem d_La_write_6 : decode (mB m_La_write) 6 = .ok (.i2l, 1) := by decide +kernel
theorem d_La_write_7 : decode (mB m_La_write) 7 = .ok (.lastore, 1) := by decide +kernel
theorem d_La_write_8 : decode (mB m_La_write) 8 = .ok (.goto 15, 3) := by decide +kernel
theorem d_La_write_11 : decode (mB m_La_write) 11 = .ok (.astore_n 2, 1) := by decide +kernel
theorem d_La_write_12 : decode (mB m_La_write) 12 = .ok (.iconst 1, 1) := by decide +kernel
theorem d_La_write_13 : decode (mB m_La_write) 13 = .ok (.ireturn, 1) := by decide +kernel
theorem d_La_write_14 : decode (mB m_La_write) 14 = .ok (.astore_n 2, 1) := by decide +kernel
theorem d_La_write_15 : decode (mB m_La_write) 15 = .ok (.iconst 2, 1) := by decide +kernel
theorem d_La_write_16 : decode (mB m_La_write) 16 = .ok (.ireturn, 1) := by decide +kernel
theorem d_La_write_17 : decode (mB m_La_write) 17 = .ok (.astore_n 2, 1) := by decide +kernel
theorem d_La_write_18 : decode (mB m_La_write) 18 = .ok (.iconst 3, 1) := by decide +kernel
theorem d_La_write_19 : decode (mB m_La_write) 19 = .ok (.ireturn, 1) := by decide +kernel
theorem d_La_write_20 : decode (mB m_La_write) 20 = .ok (.astore_n 2, 1) := by decide +kernel
theorem d_La_write_21 : decode (mB m_La_write) 21 = .ok (.iconst 4, 1) := by decide +kernel
theorem d_La_write_22 : decode (mB m_La_write) 22 = .ok (.ireturn, 1) := by decide +kernel
theorem d_La_write_23 : decode (mB m_La_write) 23 = .ok (.iconst 0, 1) := by decide +kernel
theorem d_La_write_24 : decode (mB m_La_write) 24 = .ok (.ireturn, 1) := by decide +kernel
theorem d_La_value_0 : decode (mB m_La_value) 0 = .ok (.aload_n 2, 1) := by decide +kernel
theorem d_La_value_1 : decode (mB m_La_value) 1 = .ok (.iconst 0, 1) := by decide +kernel
theorem d_La_value_2 : decode (mB m_La_value) 2 = .ok (.aload_n 0, 1) := by decide +kernel
theorem d_La_value_3 : decode (mB m_La_value) 3 = .ok (.iload_n 1, 1) := by decide +kernel
theorem d_La_value_4 : decode (mB m_La_value) 4 = .ok (.invokevirtual 45, 3) := by decide +kernel
theorem d_La_value_7 : decode (mB m_La_value) 7 = .ok (.lastore, 1) := by decide +kernel
theorem d_La_value_8 : decode (mB m_La_value) 8 = .ok (.goto 6, 3) := by decide +kernel
theorem d_La_value_11 : decode (mB m_La_value) 11 = .ok (.astore_n 3, 1) := by decide +kernel
theorem d_La_value_12 : decode (mB m_La_value) 12 = .ok (.iconst 1, 1) := by decide +kernel
theorem d_La_value_13 : decode (mB m_La_value) 13 = .ok (.ireturn, 1) := by decide +kernel
theorem d_La_value_14 : decode (mB m_La_value) 14 = .ok (.iconst 0, 1) := by decide +kernel
theorem d_La_value_15 : decode (mB m_La_value) 15 = .ok (.ireturn, 1) := by decide +kernel
theorem d_La_real_0 : decode (mB m_La_real) 0 = .ok (.aload_n 2, 1) := by decide +kernel
theorem d_La_real_1 : decode (mB m_La_real) 1 = .ok (.iconst 0, 1) := by decide +kernel
theorem d_La_real_2 : decode (mB m_La_real) 2 = .ok (.aload_n 0, 1) := by decide +kernel
theorem d_La_real_3 : decode (mB m_La_real) 3 = .ok (.iload_n 1, 1) := by decide +kernel
theorem d_La_real_4 : decode (mB m_La_real) 4 = .ok (.invokevirtual 49, 3) := by decide +kernel
theorem d_La_real_7 : decode (mB m_La_real) 7 = .ok (.dastore, 1) := by decide +kernel
theorem d_La_real_8 : decode (mB m_La_real) 8 = .ok (.goto 6, 3) := by decide +kernel
theorem d_La_real_11 : decode (mB m_La_real) 11 = .ok (.astore_n 3, 1) := by decide +kernel
theorem d_La_real_12 : decode (mB m_La_real) 12 = .ok (.iconst 1, 1) := by decide +kernel
theorem d_La_real_13 : decode (mB m_La_real) 13 = .ok (.ireturn, 1) := by decide +kernel
theorem d_La_real_14 : decode (mB m_La_real) 14 = .ok (.iconst 0, 1) := by decide +kernel
theorem d_La_real_15 : decode (mB m_La_real) 15 = .ok (.ireturn, 1) := by decide +kernel
theorem d_La_set_0 : decode (mB m_La_set) 0 = .ok (.aload 4, 2) := by decide +kernel
theorem d_La_set_2 : decode (mB m_La_set) 2 = .ok (.iconst 0, 1) := by decide +kernel
theorem d_La_set_3 : decode (mB m_La_set) 3 = .ok (.aload_n 0, 1) := by decide +kernel
theorem d_La_set_4 : decode (mB m_La_set) 4 = .ok (.iload_n 1, 1) := by decide +kernel
theorem d_La_set_5 : decode (mB m_La_set) 5 = .ok (.lload_n 2, 1) := by decide +kernel
theorem d_La_set_6 : decode (mB m_La_set) 6 = .ok (.invokevirtual 53, 3) := by decide +kernel
theorem d_La_set_9 : decode (mB m_La_set) 9 = .ok (.i2l, 1) := by decide +kernel
theorem d_La_set_10 : decode (mB m_La_set) 10 = .ok (.lastore, 1) := by decide +kernel
theorem d_La_set_11 : decode (mB m_La_set) 11 = .ok (.goto 11, 3) := by decide +kernel
theorem d_La_set_14 : decode (mB m_La_set) 14 = .ok (.astore 5, 2) := by decide +kernel
theorem d_La_set_16 : decode (mB m_La_set) 16 = .ok (.iconst 1, 1) := by decide +kernel
theorem d_La_set_17 : decode (mB m_La_set) 17 = .ok (.ireturn, 1) := by decide +kernel
theorem d_La_set_18 : decode (mB m_La_set) 18 = .ok (.astore 5, 2) := by decide +kernel
theorem d_La_set_20 : decode (mB m_La_set) 20 = .ok (.iconst 2, 1) := by decide +kernel
theorem d_La_set_21 : decode (mB m_La_set) 21 = .ok (.ireturn, 1) := by decide +kernel
theorem d_La_set_22 : decode (mB m_La_set) 22 = .ok (.iconst 0, 1) := by decide +kernel
theorem d_La_set_23 : decode (mB m_La_set) 23 = .ok (.ireturn, 1) := by decide +kernel
theorem d_La_drop_0 : decode (mB m_La_drop) 0 = .ok (.aload_n 3, 1) := by decide +kernel
theorem d_La_drop_1 : decode (mB m_La_drop) 1 = .ok (.iconst 0, 1) := by decide +kernel
theorem d_La_drop_2 : decode (mB m_La_drop) 2 = .ok (.aload_n 0, 1) := by decide +kernel
theorem d_La_drop_3 : decode (mB m_La_drop) 3 = .ok (.iload_n 1, 1) := by decide +kernel
theorem d_La_drop_4 : decode (mB m_La_drop) 4 = .ok (.iload_n 2, 1) := by decide +kernel
theorem d_La_drop_5 : decode (mB m_La_drop) 5 = .ok (.invokevirtual 57, 3) := by decide +kernel
theorem d_La_drop_8 : decode (mB m_La_drop) 8 = .ok (.i2l, 1) := by decide +kernel
theorem d_La_drop_9 : decode (mB m_La_drop) 9 = .ok (.lastore, 1) := by decide +kernel
theorem d_La_drop_10 : decode (mB m_La_drop) 10 = .ok (.goto 7, 3) := by decide +kernel
theorem d_La_drop_13 : decode (mB m_La_drop) 13 = .ok (.astore 4, 2) := by decide +kernel
theorem d_La_drop_15 : decode (mB m_La_drop) 15 = .ok (.iconst 1, 1) := by decide +kernel
theorem d_La_drop_16 : decode (mB m_La_drop) 16 = .ok (.ireturn, 1) := by decide +kernel
theorem d_La_drop_17 : decode (mB m_La_drop) 17 = .ok (.iconst 0, 1) := by decide +kernel
theorem d_La_drop_18 : decode (mB m_La_drop) 18 = .ok (.ireturn, 1) := by decide +kernel
theorem d_La_byteAt_0 : decode (mB m_La_byteAt) 0 = .ok (.aload_n 2, 1) := by decide +kernel
theorem d_La_byteAt_1 : decode (mB m_La_byteAt) 1 = .ok (.iconst 0, 1) := by decide +kernel
theorem d_La_byteAt_2 : decode (mB m_La_byteAt) 2 = .ok (.aload_n 0, 1) := by decide +kernel
theorem d_La_byteAt_3 : decode (mB m_La_byteAt) 3 = .ok (.iload_n 1, 1) := by decide +kernel
theorem d_La_byteAt_4 : decode (mB m_La_byteAt) 4 = .ok (.invokevirtual 61, 3) := by decide +kernel
theorem d_La_byteAt_7 : decode (mB m_La_byteAt) 7 = .ok (.i2l, 1) := by decide +kernel
theorem d_La_byteAt_8 : decode (mB m_La_byteAt) 8 = .ok (.lastore, 1) := by decide +kernel
theorem d_La_byteAt_9 : decode (mB m_La_byteAt) 9 = .ok (.goto 6, 3) := by decide +kernel
theorem d_La_byteAt_12 : decode (mB m_La_byteAt) 12 = .ok (.astore_n 3, 1) := by decide +kernel
theorem d_La_byteAt_13 : decode (mB m_La_byteAt) 13 = .ok (.iconst 1, 1) := by decide +kernel
theorem d_La_byteAt_14 : decode (mB m_La_byteAt) 14 = .ok (.ireturn, 1) := by decide +kernel
theorem d_La_byteAt_15 : decode (mB m_La_byteAt) 15 = .ok (.iconst 0, 1) := by decide +kernel
theorem d_La_byteAt_16 : decode (mB m_La_byteAt) 16 = .ok (.ireturn, 1) := by decide +kernel
theorem d_La_count_0 : decode (mB m_La_count) 0 = .ok (.aload_n 2, 1) := by decide +kernel
theorem d_La_count_1 : decode (mB m_La_count) 1 = .ok (.iconst 0, 1) := by decide +kernel
theorem d_La_count_2 : decode (mB m_La_count) 2 = .ok (.aload_n 0, 1) := by decide +kernel
theorem d_La_count_3 : decode (mB m_La_count) 3 = .ok (.iload_n 1, 1) := by decide +kernel
theorem d_La_count_4 : decode (mB m_La_count) 4 = .ok (.invokevirtual 64, 3) := by decide +kernel
theorem d_La_count_7 : decode (mB m_La_count) 7 = .ok (.i2l, 1) := by decide +kernel
theorem d_La_count_8 : decode (mB m_La_count) 8 = .ok (.lastore, 1) := by decide +kernel
theorem d_La_count_9 : decode (mB m_La_count) 9 = .ok (.goto 6, 3) := by decide +kernel
theorem d_La_count_12 : decode (mB m_La_count) 12 = .ok (.astore_n 3, 1) := by decide +kernel
theorem d_La_count_13 : decode (mB m_La_count) 13 = .ok (.iconst 1, 1) := by decide +kernel
theorem d_La_count_14 : decode (mB m_La_count) 14 = .ok (.ireturn, 1) := by decide +kernel
theorem d_La_count_15 : decode (mB m_La_count) 15 = .ok (.iconst 0, 1) := by decide +kernel
theorem d_La_count_16 : decode (mB m_La_count) 16 = .ok (.ireturn, 1) := by decide +kernel
