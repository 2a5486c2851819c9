theorem dX9_count_144 : decode cX9_count 144 = .ok (.getfield 33, 3) := by decide +kernel
theorem dX9_count_147 : decode cX9_count 147 = .ok (.getfield 79, 3) := by decide +kernel
theorem dX9_count_150 : decode cX9_count 150 = .ok (.ireturn, 1) := by decide +kernel
theorem dX9_count_151 : decode cX9_count 151 = .ok (.bipush (-100), 2) := by decide +kernel
theorem dX9_count_153 : decode cX9_count 153 = .ok (.ireturn, 1) := by decide +kernel
theorem dX9_row_0 : decode cX9_row 0 = .ok (.iload_n 1, 1) := by decide +kernel
theorem dX9_row_1 : decode cX9_row 1 = .ok (.ifCond .lt 14, 3) := by decide +kernel
theorem dX9_row_4 : decode cX9_row 4 = .ok (.iload_n 1, 1) := by decide +kernel
theorem dX9_row_5 : decode cX9_row 5 = .ok (.aload_n 0, 1) := by decide +kernel
theorem dX9_row_6 : decode cX9_row 6 = .ok (.getfield 40, 3) := by decide +kernel
theorem dX9_row_9 : decode cX9_row 9 = .ok (.getfield 386, 3) := by decide +kernel
theorem dX9_row_12 : decode cX9_row 12 = .ok (.if_icmp .lt 11, 3) := by decide +kernel
theorem dX9_row_15 : decode cX9_row 15 = .ok (.new 95, 3) := by decide +kernel
theorem dX9_row_18 : decode cX9_row 18 = .ok (.dup, 1) := by decide +kernel
theorem dX9_row_19 : decode cX9_row 19 = .ok (.invokespecial 97, 3) := by decide +kernel
theorem dX9_row_22 : decode cX9_row 22 = .ok (.athrow, 1) := by decide +kernel
theorem dX9_row_23 : decode cX9_row 23 = .ok (.aload_n 0, 1) := by decide +kernel
theorem dX9_row_24 : decode cX9_row 24 = .ok (.getfield 40, 3) := by decide +kernel
theorem dX9_row_27 : decode cX9_row 27 = .ok (.iload_n 1, 1) := by decide +kernel
theorem dX9_row_28 : decode cX9_row 28 = .ok (.invokevirtual 421, 3) := by decide +kernel
theorem dX9_row_31 : decode cX9_row 31 = .ok (.lreturn, 1) := by decide +kernel
theorem dX9_isTable_0 : decode cX9_isTable 0 = .ok (.iload_n 0, 1) := by decide +kernel
theorem dX9_isTable_1 : decode cX9_isTable 1 = .ok (.ifCond .eq 8, 3) := by decide +kernel
theorem dX9_isTable_4 : decode cX9_isTable 4 = .ok (.iload_n 0, 1) := by decide +kernel
theorem dX9_isTable_5 : decode cX9_isTable 5 = .ok (.iconst 1, 1) := by decide +kernel
theorem dX9_isTable_6 : decode cX9_isTable 6 = .ok (.if_icmp .ne 7, 3) := by decide +kernel
theorem dX9_isTable_9 : decode cX9_isTable 9 = .ok (.iconst 1, 1) := by decide +kernel
theorem dX9_isTable_10 : decode cX9_isTable 10 = .ok (.goto 4, 3) := by decide +kernel
theorem dX9_isTable_13 : decode cX9_isTable 13 = .ok (.iconst 0, 1) := by decide +kernel
theorem dX9_isTable_14 : decode cX9_isTable 14 = .ok (.ireturn, 1) := by decide +kernel
theorem dX9_isKey_0 : decode cX9_isKey 0 = .ok (.iload_n 0, 1) := by decide +kernel
theorem dX9_isKey_1 : decode cX9_isKey 1 = .ok (.ifCond .lt 13, 3) := by decide +kernel
theorem dX9_isKey_4 : decode cX9_isKey 4 = .ok (.iload_n 0, 1) := by decide +kernel
theorem dX9_isKey_5 : decode cX9_isKey 5 = .ok (.bipush 10, 2) := by decide +kernel
theorem dX9_isKey_7 : decode cX9_isKey 7 = .ok (.if_icmp .ge 7, 3) := by decide +kernel
theorem dX9_isKey_10 : decode cX9_isKey 10 = .ok (.iconst 1, 1) := by decide +kernel
theorem dX9_isKey_11 : decode cX9_isKey 11 = .ok (.goto 4, 3) := by decide +kernel
theorem dX9_isKey_14 : decode cX9_isKey 14 = .ok (.iconst 0, 1) := by decide +kernel
theorem dX9_isKey_15 : decode cX9_isKey 15 = .ok (.ireturn, 1) := by decide +kernel
theorem dX9_isValue_0 : decode cX9_isValue 0 = .ok (.iload_n 0, 1) := by decide +kernel
theorem dX9_isValue_1 : decode cX9_isValue 1 = .ok (.ifCond .lt 13, 3) := by decide +kernel
theorem dX9_isValue_4 : decode cX9_isValue 4 = .ok (.iload_n 0, 1) := by decide +kernel
theorem dX9_isValue_5 : decode cX9_isValue 5 = .ok (.bipush 100, 2) := by decide +kernel
theorem dX9_isValue_7 : decode cX9_isValue 7 = .ok (.if_icmp .ge 7, 3) := by decide +kernel
theorem dX9_isValue_10 : decode cX9_isValue 10 = .ok (.iconst 1, 1) := by decide +kernel
theorem dX9_isValue_11 : decode cX9_isValue 11 = .ok (.goto 4, 3) := by decide +kernel
theorem dX9_isValue_14 : decode cX9_isValue 14 = .ok (.iconst 0, 1) := by decide +kernel
theorem dX9_isValue_15 : decode cX9_isValue 15 = .ok (.ireturn, 1) := by decide +kernel
theorem dX9_isDay_0 : decode cX9_isDay 0 = .ok (.iload_n 0, 1) := by decide +kernel
theorem dX9_isDay_1 : decode cX9_isDay 1 = .ok (.ifCond .lt 13, 3) := by decide +kernel
theorem dX9_isDay_4 : decode cX9_isDay 4 = .ok (.iload_n 0, 1) := by decide +kernel
theorem dX9_isDay_5 : decode cX9_isDay 5 = .ok (.bipush 100, 2) := by decide +kernel
theorem dX9_isDay_7 : decode cX9_isDay 7 = .ok (.if_icmp .ge 7, 3) := by decide +kernel
theorem dX9_isDay_10 : decode cX9_isDay 10 = .ok (.iconst 1, 1) := by decide +kernel
theorem dX9_isDay_11 : decode cX9_isDay 11 = .ok (.goto 4, 3) := by decide +kernel
theorem dX9_isDay_14 : decode cX9_isDay 14 = .ok (.iconst 0, 1) := by decide +kernel
theorem dX9_isDay_15 : decode cX9_isDay 15 = .ok (.ireturn, 1) := by decide +kernel
theorem dX9_isPeriod_0 : decode cX9_isPeriod 0 = .ok (.iload_n 0, 1) := by decide +kernel
theorem dX9_isPeriod_1 : decode cX9_isPeriod 1 = .ok (.invokestatic 287, 3) := by decide +kernel
theorem dX9_isPeriod_4 : decode cX9_isPeriod 4 = .ok (.ifCond .eq 18, 3) := by decide +kernel
theorem dX9_isPeriod_7 : decode cX9_isPeriod 7 = .ok (.iload_n 1, 1) := by decide +kernel
theorem dX9_isPeriod_8 : decode cX9_isPeriod 8 = .ok (.iload_n 0, 1) := by decide +kernel
theorem dX9_isPeriod_9 : decode cX9_isPeriod 9 = .ok (.if_icmp .le 13, 3) := by decide +kernel
theorem dX9_isPeriod_12 : decode cX9_isPeriod 12 = .ok (.iload_n 1, 1) := by decide +kernel
theorem dX9_isPeriod_13 : decode cX9_isPeriod 13 = .ok (.bipush 100, 2) := by decide +kernel
theorem dX9_isPeriod_15 : decode cX9_isPeriod 15 = .ok (.if_icmp .gt 7, 3) := by decide +kernel
theorem dX9_isPeriod_18 : decode cX9_isPeriod 18 = .ok (.iconst 1, 1) := by decide +kernel
theorem dX9_isPeriod_19 : decode cX9_isPeriod 19 = .ok (.goto 4, 3) := by decide +kernel
theorem dX9_isPeriod_22 : decode cX9_isPeriod 22 = .ok (.iconst 0, 1) := by decide +kernel
theorem dX9_isPeriod_23 : decode cX9_isPeriod 23 = .ok (.ireturn, 1) := by decide +kernel
theorem dX9_isPortion_0 : decode cX9_isPortion 0 = .ok (.iload_n 0, 1) := by decide +kernel
theorem dX9_isPortion_1 : decode cX9_isPortion 1 = .ok (.invokestatic 83, 3) := by decide +kernel
theorem dX9_isPortion_4 : decode cX9_isPortion 4 = .ok (.ifCond .eq 22, 3) := by decide +kernel
theorem dX9_isPortion_7 : decode cX9_isPortion 7 = .ok (.iload_n 1, 1) := by decide +kernel
theorem dX9_isPortion_8 : decode cX9_isPortion 8 = .ok (.invokestatic 244, 3) := by decide +kernel
theorem dX9_isPortion_11 : decode cX9_isPortion 11 = .ok (.ifCond .eq 15, 3) := by decide +kernel
theorem dX9_isPortion_14 : decode cX9_isPortion 14 = .ok (.iload_n 2, 1) := by decide +kernel
theorem dX9_isPortion_15 : decode cX9_isPortion 15 = .ok (.iload_n 3, 1) := by decide +kernel
theorem dX9_isPortion_16 : decode cX9_isPortion 16 = .ok (.invokestatic 321, 3) := by decide +kernel
theorem dX9_isPortion_19 : decode cX9_isPortion 19 = .ok (.ifCond .eq 7, 3) := by decide +kernel
theorem dX9_isPortion_22 : decode cX9_isPortion 22 = .ok (.iconst 1, 1) := by decide +kernel
theorem dX9_isPortion_23 : decode cX9_isPortion 23 = .ok (.goto 4, 3) := by decide +kernel
theorem dX9_isPortion_26 : decode cX9_isPortion 26 = .ok (.iconst 0, 1) := by decide +kernel
theorem dX9_isPortion_27 : decode cX9_isPortion 27 = .ok (.ireturn, 1) := by decide +kernel
theorem dX9_isKeptNumber_0 : decode cX9_isKeptNumber 0 = .ok (.iload_n 0, 1) := by decide +kernel
theorem dX9_isKeptNumber_1 : decode cX9_isKeptNumber 1 = .ok (.ifCond .lt 12, 3) := by decide +kernel
theorem dX9_isKeptNumber_4 : decode cX9_isKeptNumber 4 = .ok (.iload_n 0, 1) := by decide +kernel
theorem dX9_isKeptNumber_5 : decode cX9_isKeptNumber 5 = .ok (.iconst 2, 1) := by decide +kernel
theorem dX9_isKeptNumber_6 : decode cX9_isKeptNumber 6 = .ok (.if_icmp .ge 7, 3) := by decide +kernel
theorem dX9_isKeptNumber_9 : decode cX9_isKeptNumber 9 = .ok (.iconst 1, 1) := by decide +kernel
theorem dX9_isKeptNumber_10 : decode cX9_isKeptNumber 10 = .ok (.goto 4, 3) := by decide +kernel
theorem dX9_isKeptNumber_13 : decode cX9_isKeptNumber 13 = .ok (.iconst 0, 1) := by decide +kernel
theorem dX9_isKeptNumber_14 : decode cX9_isKeptNumber 14 = .ok (.ireturn, 1) := by decide +kernel
theorem dX10_refuse_0 : decode cX10_refuse 0 = .ok (.aload_n 0, 1) := by decide +kernel
theorem dX10_refuse_1 : decode cX10_refuse 1 = .ok (.iconst 1, 1) := by decide +kernel
theorem dX10_refuse_2 : decode cX10_refuse 2 = .ok (.putfield 3, 3) := by decide +kernel
theorem dX10_refuse_5 : decode cX10_refuse 5 = .ok (.iconst 0, 1) := by decide +kernel
theorem dX10_refuse_6 : decode cX10_refuse 6 = .ok (.ireturn, 1) := by decide +kernel
theorem dX10_in_0 : decode cX10_in 0 = .ok (.lload_n 0, 1) := by decide +kernel
theorem dX10_in_1 : decode cX10_in 1 = .ok (.lload_n 2, 1) := by decide +kernel
theorem dX10_in_2 : decode cX10_in 2 = .ok (.lcmp, 1) := by decide +kernel
theorem dX10_in_3 : decode cX10_in 3 = .ok (.ifCond .lt 14, 3) := by decide +kernel
theorem dX10_in_6 : decode cX10_in 6 = .ok (.lload_n 0, 1) := by decide +kernel
theorem dX10_in_7 : decode cX10_in 7 = .ok (.lload 4, 2) := by decide +kernel
theorem dX10_in_9 : decode cX10_in 9 = .ok (.lcmp, 1) := by decide +kernel
theorem dX10_in_10 : decode cX10_in 10 = .ok (.ifCond .gt 7, 3) := by decide +kernel
theorem dX10_in_13 : decode cX10_in 13 = .ok (.iconst 1, 1) := by decide +kernel
theorem dX10_in_14 : decode cX10_in 14 = .ok (.goto 4, 3) := by decide +kernel
theorem dX10_in_17 : decode cX10_in 17 = .ok (.iconst 0, 1) := by decide +kernel
theorem dX10_in_18 : decode cX10_in 18 = .ok (.ireturn, 1) := by decide +kernel
theorem dX10_has_0 : decode cX10_has 0 = .ok (.iload_n 0, 1) := by decide +kernel
theorem dX10_has_1 : decode cX10_has 1 = .ok (.iload_n 1, 1) := by decide +kernel
theorem dX10_has_2 : decode cX10_has 2 = .ok (.ishr, 1) := by decide +kernel
theorem dX10_has_3 : decode cX10_has 3 = .ok (.iconst 1, 1) := by decide +kernel
theorem dX10_has_4 : decode cX10_has 4 = .ok (.iand, 1) := by decide +kernel
theorem dX10_has_5 : decode cX10_has 5 = .ok (.iconst 1, 1) := by decide +kernel
theorem dX10_has_6 : decode cX10_has 6 = .ok (.if_icmp .ne 7, 3) := by decide +kernel
theorem dX10_has_9 : decode cX10_has 9 = .ok (.iconst 1, 1) := by decide +kernel
theorem dX10_has_10 : decode cX10_has 10 = .ok (.goto 4, 3) := by decide +kernel
theorem dX10_has_13 : decode cX10_has 13 = .ok (.iconst 0, 1) := by decide +kernel
theorem dX10_has_14 : decode cX10_has 14 = .ok (.ireturn, 1) := by decide +kernel
theorem dX10_flag_0 : decode cX10_flag 0 = .ok (.iload_n 0, 1) := by decide +kernel
theorem dX10_flag_1 : decode cX10_flag 1 = .ok (.ifCond .eq 7, 3) := by decide +kernel
theorem dX10_flag_4 : decode cX10_flag 4 = .ok (.iconst 1, 1) := by decide +kernel
theorem dX10_flag_5 : decode cX10_flag 5 = .ok (.goto 4, 3) := by decide +kernel
theorem dX10_flag_8 : decode cX10_flag 8 = .ok (.iconst 0, 1) := by decide +kernel
theorem dX10_flag_9 : decode cX10_flag 9 = .ok (.ireturn, 1) := by decide +kernel
theorem dX10_common_0 : decode cX10_common 0 = .ok (.lload_n 2, 1) := by decide +kernel
theorem dX10_common_1 : decode cX10_common 1 = .ok (.lconst 0, 1) := by decide +kernel
theorem dX10_common_2 : decode cX10_common 2 = .ok (.lcmp, 1) := by decide +kernel
theorem dX10_common_3 : decode cX10_common 3 = .ok (.ifCond .ne 7, 3) := by decide +kernel
theorem dX10_common_6 : decode cX10_common 6 = .ok (.lload_n 0, 1) := by decide +kernel
theorem dX10_common_7 : decode cX10_common 7 = .ok (.goto 10, 3) := by decide +kernel
theorem dX10_common_10 : decode cX10_common 10 = .ok (.lload_n 2, 1) := by decide +kernel
theorem dX10_common_11 : decode cX10_common 11 = .ok (.lload_n 0, 1) := by decide +kernel
theorem dX10_common_12 : decode cX10_common 12 = .ok (.lload_n 2, 1) := by decide +kernel
theorem dX10_common_13 : decode cX10_common 13 = .ok (.lrem, 1) := by decide +kernel
theorem dX10_common_14 : decode cX10_common 14 = .ok (.invokestatic 7, 3) := by decide +kernel
theorem dX10_common_17 : decode cX10_common 17 = .ok (.lreturn, 1) := by decide +kernel
theorem dX10_enters_0 : decode cX10_enters 0 = .ok (.aload_n 0, 1) := by decide +kernel
theorem dX10_enters_1 : decode cX10_enters 1 = .ok (.getfield 11, 3) := by decide +kernel
theorem dX10_enters_4 : decode cX10_enters 4 = .ok (.aload_n 0, 1) := by decide +kernel
theorem dX10_enters_5 : decode cX10_enters 5 = .ok (.getfield 15, 3) := by decide +kernel
theorem dX10_enters_8 : decode cX10_enters 8 = .ok (.lload_n 1, 1) := by decide +kernel
theorem dX10_enters_9 : decode cX10_enters 9 = .ok (.lastore, 1) := by decide +kernel
theorem dX10_enters_10 : decode cX10_enters 10 = .ok (.aload_n 0, 1) := by decide +kernel
theorem dX10_enters_11 : decode cX10_enters 11 = .ok (.dup, 1) := by decide +kernel
theorem dX10_enters_12 : decode cX10_enters 12 = .ok (.getfield 15, 3) := by decide +kernel
theorem dX10_enters_15 : decode cX10_enters 15 = .ok (.iconst 1, 1) := by decide +kernel
theorem dX10_enters_16 : decode cX10_enters 16 = .ok (.iadd, 1) := by decide +kernel
theorem dX10_enters_17 : decode cX10_enters 17 = .ok (.putfield 15, 3) := by decide +kernel
theorem dX10_enters_20 : decode cX10_enters 20 = .ok (.return_, 1) := by decide +kernel
theorem dX10_sign_0 : decode cX10_sign 0 = .ok (.aload_n 0, 1) := by decide +kernel
theorem dX10_sign_1 : decode cX10_sign 1 = .ok (.iconst 0, 1) := by decide +kernel
theorem dX10_sign_2 : decode cX10_sign 2 = .ok (.putfield 3, 3) := by decide +kernel
theorem dX10_sign_5 : decode cX10_sign 5 = .ok (.aload_n 0, 1) := by decide +kernel
theorem dX10_sign_6 : decode cX10_sign 6 = .ok (.getfield 18, 3) := by decide +kernel
theorem dX10_sign_9 : decode cX10_sign 9 = .ok (.bipush 76, 2) := by decide +kernel
theorem dX10_sign_11 : decode cX10_sign 11 = .ok (.if_icmp .le 5, 3) := by decide +kernel
theorem dX10_sign_14 : decode cX10_sign 14 = .ok (.iconst (-1), 1) := by decide +kernel
theorem dX10_sign_15 : decode cX10_sign 15 = .ok (.ireturn, 1) := by decide +kernel
theorem dX10_sign_16 : decode cX10_sign 16 = .ok (.iconst 0, 1) := by decide +kernel
theorem dX10_sign_17 : decode cX10_sign 17 = .ok (.istore_n 2, 1) := by decide +kernel
theorem dX10_sign_18 : decode cX10_sign 18 = .ok (.iload_n 2, 1) := by decide +kernel
theorem dX10_sign_19 : decode cX10_sign 19 = .ok (.iconst 4, 1) := by decide +kernel
theorem dX10_sign_20 : decode cX10_sign 20 = .ok (.if_icmp .ge 33, 3) := by decide +kernel
theorem dX10_sign_23 : decode cX10_sign 23 = .ok (.aload_n 0, 1) := by decide +kernel
theorem dX10_sign_24 : decode cX10_sign 24 = .ok (.getfield 21, 3) := by decide +kernel
theorem dX10_sign_27 : decode cX10_sign 27 = .ok (.aload_n 0, 1) := by decide +kernel
theorem dX10_sign_28 : decode cX10_sign 28 = .ok (.getfield 18, 3) := by decide +kernel
theorem dX10_sign_31 : decode cX10_sign 31 = .ok (.iload_n 2, 1) := by decide +kernel
theorem dX10_sign_32 : decode cX10_sign 32 = .ok (.iadd, 1) := by decide +kernel
theorem dX10_sign_33 : decode cX10_sign 33 = .ok (.iload_n 1, 1) := by decide +kernel
theorem dX10_sign_34 : decode cX10_sign 34 = .ok (.bipush 24, 2) := by decide +kernel
theorem dX10_sign_36 : decode cX10_sign 36 = .ok (.bipush 8, 2) := by decide +kernel
theorem dX10_sign_38 : decode cX10_sign 38 = .ok (.iload_n 2, 1) := by decide +kernel
theorem dX10_sign_39 : decode cX10_sign 39 = .ok (.imul, 1) := by decide +kernel
theorem dX10_sign_40 : decode cX10_sign 40 = .ok (.isub, 1) := by decide +kernel
theorem dX10_sign_41 : decode cX10_sign 41 = .ok (.ishr, 1) := by decide +kernel
theorem dX10_sign_42 : decode cX10_sign 42 = .ok (.sipush 255, 3) := by decide +kernel
theorem dX10_sign_45 : decode cX10_sign 45 = .ok (.iand, 1) := by decide +kernel
theorem dX10_sign_46 : decode cX10_sign 46 = .ok (.iastore, 1) := by decide +kernel
theorem dX10_sign_47 : decode cX10_sign 47 = .ok (.iinc 2 1, 3) := by decide +kernel
theorem dX10_sign_50 : decode cX10_sign 50 = .ok (.goto (-32), 3) := by decide +kernel
theorem dX10_sign_53 : decode cX10_sign 53 = .ok (.aload_n 0, 1) := by decide +kernel
theorem dX10_sign_54 : decode cX10_sign 54 = .ok (.dup, 1) := by decide +kernel
theorem dX10_sign_55 : decode cX10_sign 55 = .ok (.getfield 18, 3) := by decide +kernel
theorem dX10_sign_58 : decode cX10_sign 58 = .ok (.iconst 4, 1) := by decide +kernel
theorem dX10_sign_59 : decode cX10_sign 59 = .ok (.iadd, 1) := by decide +kernel
theorem dX10_sign_60 : decode cX10_sign 60 = .ok (.putfield 18, 3) := by decide +kernel
theorem dX10_sign_63 : decode cX10_sign 63 = .ok (.aload_n 0, 1) := by decide +kernel
theorem dX10_sign_64 : decode cX10_sign 64 = .ok (.getfield 18, 3) := by decide +kernel
theorem dX10_sign_67 : decode cX10_sign 67 = .ok (.ireturn, 1) := by decide +kernel
theorem dX10_end_0 : decode cX10_end 0 = .ok (.aload_n 0, 1) := by decide +kernel
theorem dX10_end_1 : decode cX10_end 1 = .ok (.iconst 0, 1) := by decide +kernel
theorem dX10_end_2 : decode cX10_end 2 = .ok (.putfield 3, 3) := by decide +kernel
theorem dX10_end_5 : decode cX10_end 5 = .ok (.iload_n 1, 1) := by decide +kernel
theorem dX10_end_6 : decode cX10_end 6 = .ok (.i2l, 1) := by decide +kernel
theorem dX10_end_7 : decode cX10_end 7 = .ok (.lconst 0, 1) := by decide +kernel
theorem dX10_end_8 : decode cX10_end 8 = .ok (.aload_n 0, 1) := by decide +kernel
theorem dX10_end_9 : decode cX10_end 9 = .ok (.getfield 18, 3) := by decide +kernel
theorem dX10_end_12 : decode cX10_end 12 = .ok (.i2l, 1) := by decide +kernel
theorem dX10_end_13 : decode cX10_end 13 = .ok (.invokestatic 25, 3) := by decide +kernel
theorem dX10_end_16 : decode cX10_end 16 = .ok (.ifCond .ne 5, 3) := by decide +kernel
theorem dX10_end_19 : decode cX10_end 19 = .ok (.iconst 0, 1) := by decide +kernel
theorem dX10_end_20 : decode cX10_end 20 = .ok (.ireturn, 1) := by decide +kernel
theorem dX10_end_21 : decode cX10_end 21 = .ok (.aload_n 0, 1) := by decide +kernel
theorem dX10_end_22 : decode cX10_end 22 = .ok (.iload_n 1, 1) := by decide +kernel
theorem dX10_end_23 : decode cX10_end 23 = .ok (.putfield 18, 3) := by decide +kernel
theorem dX10_end_26 : decode cX10_end 26 = .ok (.iconst 1, 1) := by decide +kernel
theorem dX10_end_27 : decode cX10_end 27 = .ok (.ireturn, 1) := by decide +kernel
theorem dX10_reads_0 : decode cX10_reads 0 = .ok (.aload_n 0, 1) := by decide +kernel
theorem dX10_reads_1 : decode cX10_reads 1 = .ok (.getfield 18, 3) := by decide +kernel
theorem dX10_reads_4 : decode cX10_reads 4 = .ok (.istore_n 2, 1) := by decide +kernel
theorem dX10_reads_5 : decode cX10_reads 5 = .ok (.aload_n 0, 1) := by decide +kernel
theorem dX10_reads_6 : decode cX10_reads 6 = .ok (.iconst 0, 1) := by decide +kernel
theorem dX10_reads_7 : decode cX10_reads 7 = .ok (.putfield 18, 3) := by decide +kernel
theorem dX10_reads_10 : decode cX10_reads 10 = .ok (.aload_n 0, 1) := by decide +kernel
theorem dX10_reads_11 : decode cX10_reads 11 = .ok (.iconst 0, 1) := by decide +kernel
theorem dX10_reads_12 : decode cX10_reads 12 = .ok (.putfield 29, 3) := by decide +kernel
theorem dX10_reads_15 : decode cX10_reads 15 = .ok (.aload_n 0, 1) := by decide +kernel
theorem dX10_reads_16 : decode cX10_reads 16 = .ok (.iconst 0, 1) := by decide +kernel
theorem dX10_reads_17 : decode cX10_reads 17 = .ok (.putfield 32, 3) := by decide +kernel
theorem dX10_reads_20 : decode cX10_reads 20 = .ok (.aload_n 0, 1) := by decide +kernel
theorem dX10_reads_21 : decode cX10_reads 21 = .ok (.iload_n 2, 1) := by decide +kernel
theorem dX10_reads_22 : decode cX10_reads 22 = .ok (.iload_n 1, 1) := by decide +kernel
theorem dX10_reads_23 : decode cX10_reads 23 = .ok (.invokestatic 35, 3) := by decide +kernel
theorem dX10_reads_26 : decode cX10_reads 26 = .ok (.putfield 41, 3) := by decide +kernel
theorem dX10_reads_29 : decode cX10_reads 29 = .ok (.iload_n 2, 1) := by decide +kernel
theorem dX10_reads_30 : decode cX10_reads 30 = .ok (.ireturn, 1) := by decide +kernel
theorem dX10_takes_0 : decode cX10_takes 0 = .ok (.aload_n 0, 1) := by decide +kernel
theorem dX10_takes_1 : decode cX10_takes 1 = .ok (.getfield 29, 3) := by decide +kernel
theorem dX10_takes_4 : decode cX10_takes 4 = .ok (.aload_n 0, 1) := by decide +kernel
theorem dX10_takes_5 : decode cX10_takes 5 = .ok (.getfield 41, 3) := by decide +kernel
theorem dX10_takes_8 : decode cX10_takes 8 = .ok (.if_icmp .ge 20, 3) := by decide +kernel
theorem dX10_takes_11 : decode cX10_takes 11 = .ok (.aload_n 0, 1) := by decide +kernel
theorem dX10_takes_12 : decode cX10_takes 12 = .ok (.getfield 21, 3) := by decide +kernel
theorem dX10_takes_15 : decode cX10_takes 15 = .ok (.aload_n 0, 1) := by decide +kernel
theorem dX10_takes_16 : decode cX10_takes 16 = .ok (.getfield 29, 3) := by decide +kernel
theorem dX10_takes_19 : decode cX10_takes 19 = .ok (.iaload, 1) := by decide +kernel
theorem dX10_takes_20 : decode cX10_takes 20 = .ok (.iload_n 1, 1) := by decide +kernel
theorem dX10_takes_21 : decode cX10_takes 21 = .ok (.if_icmp .ne 7, 3) := by decide +kernel
theorem dX10_takes_24 : decode cX10_takes 24 = .ok (.iconst 1, 1) := by decide +kernel
theorem dX10_takes_25 : decode cX10_takes 25 = .ok (.goto 4, 3) := by decide +kernel
theorem dX10_takes_28 : decode cX10_takes 28 = .ok (.iconst 0, 1) := by decide +kernel
theorem dX10_takes_29 : decode cX10_takes 29 = .ok (.istore_n 2, 1) := by decide +kernel
theorem dX10_takes_30 : decode cX10_takes 30 = .ok (.aload_n 0, 1) := by decide +kernel
theorem dX10_takes_31 : decode cX10_takes 31 = .ok (.dup, 1) := by decide +kernel
theorem dX10_takes_32 : decode cX10_takes 32 = .ok (.getfield 29, 3) := by decide +kernel
theorem dX10_takes_35 : decode cX10_takes 35 = .ok (.iload_n 2, 1) := by decide +kernel
theorem dX10_takes_36 : decode cX10_takes 36 = .ok (.invokestatic 44, 3) := by decide +kernel
theorem dX10_takes_39 : decode cX10_takes 39 = .ok (.iadd, 1) := by decide +kernel
theorem dX10_takes_40 : decode cX10_takes 40 = .ok (.putfield 29, 3) := by decide +kernel
theorem dX10_takes_43 : decode cX10_takes 43 = .ok (.iload_n 2, 1) := by decide +kernel
theorem dX10_takes_44 : decode cX10_takes 44 = .ok (.ireturn, 1) := by decide +kernel
theorem dX10_isDigit_0 : decode cX10_isDigit 0 = .ok (.aload_n 0, 1) := by decide +kernel
theorem dX10_isDigit_1 : decode cX10_isDigit 1 = .ok (.getfield 29, 3) := by decide +kernel
theorem dX10_isDigit_4 : decode cX10_isDigit 4 = .ok (.aload_n 0, 1) := by decide +kernel
theorem dX10_isDigit_5 : decode cX10_isDigit 5 = .ok (.getfield 41, 3) := by decide +kernel
theorem dX10_isDigit_8 : decode cX10_isDigit 8 = .ok (.if_icmp .ge 29, 3) := by decide +kernel
theorem dX10_isDigit_11 : decode cX10_isDigit 11 = .ok (.aload_n 0, 1) := by decide +kernel
theorem dX10_isDigit_12 : decode cX10_isDigit 12 = .ok (.getfield 21, 3) := by decide +kernel
theorem dX10_isDigit_15 : decode cX10_isDigit 15 = .ok (.aload_n 0, 1) := by decide +kernel
theorem dX10_isDigit_16 : decode cX10_isDigit 16 = .ok (.getfield 29, 3) := by decide +kernel
theorem dX10_isDigit_19 : decode cX10_isDigit 19 = .ok (.iaload, 1) := by decide +kernel
theorem dX10_isDigit_20 : decode cX10_isDigit 20 = .ok (.i2l, 1) := by decide +kernel
theorem dX10_isDigit_21 : decode cX10_isDigit 21 = .ok (.ldc2_w 48, 3) := by decide +kernel
theorem dX10_isDigit_24 : decode cX10_isDigit 24 = .ok (.ldc2_w 50, 3) := by decide +kernel
theorem dX10_isDigit_27 : decode cX10_isDigit 27 = .ok (.invokestatic 25, 3) := by decide +kernel
theorem dX10_isDigit_30 : decode cX10_isDigit 30 = .ok (.ifCond .eq 7, 3) := by decide +kernel
theorem dX10_isDigit_33 : decode cX10_isDigit 33 = .ok (.iconst 1, 1) := by decide +kernel
theorem dX10_isDigit_34 : decode cX10_isDigit 34 = .ok (.goto 4, 3) := by decide +kernel
theorem dX10_isDigit_37 : decode cX10_isDigit 37 = .ok (.iconst 0, 1) := by decide +kernel
theorem dX10_isDigit_38 : decode cX10_isDigit 38 = .ok (.ireturn, 1) := by decide +kernel
theorem dX10_takesOf_0 : decode cX10_takesOf 0 = .ok (.iconst 0, 1) := by decide +kernel
theorem dX10_takesOf_1 : decode cX10_takesOf 1 = .ok (.istore_n 2, 1) := by decide +kernel
theorem dX10_takesOf_2 : decode cX10_takesOf 2 = .ok (.iload_n 2, 1) := by decide +kernel
theorem dX10_takesOf_3 : decode cX10_takesOf 3 = .ok (.aload_n 1, 1) := by decide +kernel
theorem dX10_takesOf_4 : decode cX10_takesOf 4 = .ok (.invokevirtual 52, 3) := by decide +kernel
theorem dX10_takesOf_7 : decode cX10_takesOf 7 = .ok (.if_icmp .ge 49, 3) := by decide +kernel
theorem dX10_takesOf_10 : decode cX10_takesOf 10 = .ok (.aload_n 0, 1) := by decide +kernel
theorem dX10_takesOf_11 : decode cX10_takesOf 11 = .ok (.getfield 29, 3) := by decide +kernel
theorem dX10_takesOf_14 : decode cX10_takesOf 14 = .ok (.aload_n 0, 1) := by decide +kernel
theorem dX10_takesOf_15 : decode cX10_takesOf 15 = .ok (.getfield 41, 3) := by decide +kernel
theorem dX10_takesOf_18 : decode cX10_takesOf 18 = .ok (.if_icmp .ge 38, 3) := by decide +kernel
theorem dX10_takesOf_21 : decode cX10_takesOf 21 = .ok (.aload_n 1, 1) := by decide +kernel
theorem dX10_takesOf_22 : decode cX10_takesOf 22 = .ok (.iload_n 2, 1) := by decide +kernel
theorem dX10_takesOf_23 : decode cX10_takesOf 23 = .ok (.invokevirtual 58, 3) := by decide +kernel
theorem dX10_takesOf_26 : decode cX10_takesOf 26 = .ok (.aload_n 0, 1) := by decide +kernel
theorem dX10_takesOf_27 : decode cX10_takesOf 27 = .ok (.getfield 21, 3) := by decide +kernel
theorem dX10_takesOf_30 : decode cX10_takesOf 30 = .ok (.aload_n 0, 1) := by decide +kernel
theorem dX10_takesOf_31 : decode cX10_takesOf 31 = .ok (.getfield 29, 3) := by decide +kernel
theorem dX10_takesOf_34 : decode cX10_takesOf 34 = .ok (.iaload, 1) := by decide +kernel
theorem dX10_takesOf_35 : decode cX10_takesOf 35 = .ok (.if_icmp .ne 15, 3) := by decide +kernel
theorem dX10_takesOf_38 : decode cX10_takesOf 38 = .ok (.aload_n 0, 1) := by decide +kernel
theorem dX10_takesOf_39 : decode cX10_takesOf 39 = .ok (.dup, 1) := by decide +kernel
theorem dX10_takesOf_40 : decode cX10_takesOf 40 = .ok (.getfield 29, 3) := by decide +kernel
theorem dX10_takesOf_43 : decode cX10_takesOf 43 = .ok (.iconst 1, 1) := by decide +kernel
theorem dX10_takesOf_44 : decode cX10_takesOf 44 = .ok (.iadd, 1) := by decide +kernel
theorem dX10_takesOf_45 : decode cX10_takesOf 45 = .ok (.putfield 29, 3) := by decide +kernel
theorem dX10_takesOf_48 : decode cX10_takesOf 48 = .ok (.iload_n 2, 1) := by decide +kernel
theorem dX10_takesOf_49 : decode cX10_takesOf 49 = .ok (.ireturn, 1) := by decide +kernel
theorem dX10_takesOf_50 : decode cX10_takesOf 50 = .ok (.iinc 2 1, 3) := by decide +kernel
theorem dX10_takesOf_53 : decode cX10_takesOf 53 = .ok (.goto (-51), 3) := by decide +kernel
theorem dX10_takesOf_56 : decode cX10_takesOf 56 = .ok (.iconst (-1), 1) := by decide +kernel
theorem dX10_takesOf_57 : decode cX10_takesOf 57 = .ok (.ireturn, 1) := by decide +kernel
theorem dX10_number_0 : decode cX10_number 0 = .ok (.aload_n 0, 1) := by decide +kernel
theorem dX10_number_1 : decode cX10_number 1 = .ok (.invokevirtual 62, 3) := by decide +kernel
theorem dX10_number_4 : decode cX10_number 4 = .ok (.ifCond .ne 5, 3) := by decide +kernel
theorem dX10_number_7 : decode cX10_number 7 = .ok (.iconst (-1), 1) := by decide +kernel
theorem dX10_number_8 : decode cX10_number 8 = .ok (.ireturn, 1) := by decide +kernel
theorem dX10_number_9 : decode cX10_number 9 = .ok (.iconst 0, 1) := by decide +kernel
theorem dX10_number_10 : decode cX10_number 10 = .ok (.istore_n 2, 1) := by decide +kernel
theorem dX10_number_11 : decode cX10_number 11 = .ok (.iconst 0, 1) := by decide +kernel
theorem dX10_number_12 : decode cX10_number 12 = .ok (.istore_n 3, 1) := by decide +kernel
theorem dX10_number_13 : decode cX10_number 13 = .ok (.iload_n 3, 1) := by decide +kernel
theorem dX10_number_14 : decode cX10_number 14 = .ok (.iload_n 1, 1) := by decide +kernel
theorem dX10_number_15 : decode cX10_number 15 = .ok (.if_icmp .ge 44, 3) := by decide +kernel
theorem dX10_number_18 : decode cX10_number 18 = .ok (.aload_n 0, 1) := by decide +kernel
theorem dX10_number_19 : decode cX10_number 19 = .ok (.invokevirtual 62, 3) := by decide +kernel
theorem dX10_number_22 : decode cX10_number 22 = .ok (.ifCond .eq 37, 3) := by decide +kernel
theorem dX10_number_25 : decode cX10_number 25 = .ok (.bipush 10, 2) := by decide +kernel
theorem dX10_number_27 : decode cX10_number 27 = .ok (.iload_n 2, 1) := by decide +kernel
theorem dX10_number_28 : decode cX10_number 28 = .ok (.imul, 1) := by decide +kernel
theorem dX10_number_29 : decode cX10_number 29 = .ok (.aload_n 0, 1) := by decide +kernel
theorem dX10_number_30 : decode cX10_number 30 = .ok (.getfield 21, 3) := by decide +kernel
theorem dX10_number_33 : decode cX10_number 33 = .ok (.aload_n 0, 1) := by decide +kernel
theorem dX10_number_34 : decode cX10_number 34 = .ok (.getfield 29, 3) := by decide +kernel
theorem dX10_number_37 : decode cX10_number 37 = .ok (.iaload, 1) := by decide +kernel
theorem dX10_number_38 : decode cX10_number 38 = .ok (.iadd, 1) := by decide +kernel
theorem dX10_number_39 : decode cX10_number 39 = .ok (.bipush 48, 2) := by decide +kernel
theorem dX10_number_41 : decode cX10_number 41 = .ok (.isub, 1) := by decide +kernel
theorem dX10_number_42 : decode cX10_number 42 = .ok (.istore_n 2, 1) := by decide +kernel
theorem dX10_number_43 : decode cX10_number 43 = .ok (.aload_n 0, 1) := by decide +kernel
theorem dX10_number_44 : decode cX10_number 44 = .ok (.dup, 1) := by decide +kernel
theorem dX10_number_45 : decode cX10_number 45 = .ok (.getfield 29, 3) := by decide +kernel
theorem dX10_number_48 : decode cX10_number 48 = .ok (.iconst 1, 1) := by decide +kernel
theorem dX10_number_49 : decode cX10_number 49 = .ok (.iadd, 1) := by decide +kernel
theorem dX10_number_50 : decode cX10_number 50 = .ok (.putfield 29, 3) := by decide +kernel
theorem dX10_number_53 : decode cX10_number 53 = .ok (.iinc 3 1, 3) := by decide +kernel
theorem dX10_number_56 : decode cX10_number 56 = .ok (.goto (-43), 3) := by decide +kernel
theorem dX10_number_59 : decode cX10_number 59 = .ok (.iload_n 2, 1) := by decide +kernel
theorem dX10_number_60 : decode cX10_number 60 = .ok (.ireturn, 1) := by decide +kernel
theorem dX10_two_0 : decode cX10_two 0 = .ok (.aload_n 0, 1) := by decide +kernel
theorem dX10_two_1 : decode cX10_two 1 = .ok (.iconst 1, 1) := by decide +kernel
theorem dX10_two_2 : decode cX10_two 2 = .ok (.invokevirtual 66, 3) := by decide +kernel
theorem dX10_two_5 : decode cX10_two 5 = .ok (.istore_n 1, 1) := by decide +kernel
theorem dX10_two_6 : decode cX10_two 6 = .ok (.iload_n 1, 1) := by decide +kernel
theorem dX10_two_7 : decode cX10_two 7 = .ok (.ifCond .ge 7, 3) := by decide +kernel
theorem dX10_two_10 : decode cX10_two 10 = .ok (.iconst (-1), 1) := by decide +kernel
theorem dX10_two_11 : decode cX10_two 11 = .ok (.goto 8, 3) := by decide +kernel
theorem dX10_two_14 : decode cX10_two 14 = .ok (.aload_n 0, 1) := by decide +kernel
theorem dX10_two_15 : decode cX10_two 15 = .ok (.iconst 1, 1) := by decide +kernel
theorem dX10_two_16 : decode cX10_two 16 = .ok (.invokevirtual 66, 3) := by decide +kernel
theorem dX10_two_19 : decode cX10_two 19 = .ok (.istore_n 2, 1) := by decide +kernel
theorem dX10_two_20 : decode cX10_two 20 = .ok (.iload_n 2, 1) := by decide +kernel
theorem dX10_two_21 : decode cX10_two 21 = .ok (.ifCond .ge 7, 3) := by decide +kernel
theorem dX10_two_24 : decode cX10_two 24 = .ok (.iconst (-1), 1) := by decide +kernel
theorem dX10_two_25 : decode cX10_two 25 = .ok (.goto 9, 3) := by decide +kernel
theorem dX10_two_28 : decode cX10_two 28 = .ok (.bipush 10, 2) := by decide +kernel
theorem dX10_two_30 : decode cX10_two 30 = .ok (.iload_n 1, 1) := by decide +kernel
theorem dX10_two_31 : decode cX10_two 31 = .ok (.imul, 1) := by decide +kernel
theorem dX10_two_32 : decode cX10_two 32 = .ok (.iload_n 2, 1) := by decide +kernel
theorem dX10_two_33 : decode cX10_two 33 = .ok (.iadd, 1) := by decide +kernel
theorem dX10_two_34 : decode cX10_two 34 = .ok (.ireturn, 1) := by decide +kernel
theorem dX10_faultOf_0 : decode cX10_faultOf 0 = .ok (.iload_n 3, 1) := by decide +kernel
theorem dX10_faultOf_1 : decode cX10_faultOf 1 = .ok (.ifCond .eq 18, 3) := by decide +kernel
theorem dX10_faultOf_4 : decode cX10_faultOf 4 = .ok (.aload_n 0, 1) := by decide +kernel
theorem dX10_faultOf_5 : decode cX10_faultOf 5 = .ok (.getfield 29, 3) := by decide +kernel
theorem dX10_faultOf_8 : decode cX10_faultOf 8 = .ok (.aload_n 0, 1) := by decide +kernel
theorem dX10_faultOf_9 : decode cX10_faultOf 9 = .ok (.getfield 41, 3) := by decide +kernel
theorem dX10_faultOf_12 : decode cX10_faultOf 12 = .ok (.if_icmp .ne 7, 3) := by decide +kernel
theorem dX10_faultOf_15 : decode cX10_faultOf 15 = .ok (.iconst 1, 1) := by decide +kernel
theorem dX10_faultOf_16 : decode cX10_faultOf 16 = .ok (.goto 4, 3) := by decide +kernel
theorem dX10_faultOf_19 : decode cX10_faultOf 19 = .ok (.iconst 0, 1) := by decide +kernel
theorem dX10_faultOf_20 : decode cX10_faultOf 20 = .ok (.istore 4, 2) := by decide +kernel
theorem dX10_faultOf_22 : decode cX10_faultOf 22 = .ok (.iload_n 1, 1) := by decide +kernel
theorem dX10_faultOf_23 : decode cX10_faultOf 23 = .ok (.iload_n 2, 1) := by decide +kernel
theorem dX10_faultOf_24 : decode cX10_faultOf 24 = .ok (.if_icmp .le 20, 3) := by decide +kernel
theorem dX10_faultOf_27 : decode cX10_faultOf 27 = .ok (.iload 4, 2) := by decide +kernel
theorem dX10_faultOf_29 : decode cX10_faultOf 29 = .ok (.ifCond .ne 11, 3) := by decide +kernel
theorem dX10_faultOf_32 : decode cX10_faultOf 32 = .ok (.aload_n 0, 1) := by decide +kernel
theorem dX10_faultOf_33 : decode cX10_faultOf 33 = .ok (.getfield 29, 3) := by decide +kernel
theorem dX10_faultOf_36 : decode cX10_faultOf 36 = .ok (.iload_n 2, 1) := by decide +kernel
theorem dX10_faultOf_37 : decode cX10_faultOf 37 = .ok (.if_icmp .lt 7, 3) := by decide +kernel
theorem dX10_faultOf_40 : decode cX10_faultOf 40 = .ok (.iconst (-1), 1) := by decide +kernel
theorem dX10_faultOf_41 : decode cX10_faultOf 41 = .ok (.iload_n 2, 1) := by decide +kernel
theorem dX10_faultOf_42 : decode cX10_faultOf 42 = .ok (.isub, 1) := by decide +kernel
theorem dX10_faultOf_43 : decode cX10_faultOf 43 = .ok (.ireturn, 1) := by decide +kernel
theorem dX10_faultOf_44 : decode cX10_faultOf 44 = .ok (.iload 4, 2) := by decide +kernel
theorem dX10_faultOf_46 : decode cX10_faultOf 46 = .ok (.ifCond .eq 7, 3) := by decide +kernel
theorem dX10_faultOf_49 : decode cX10_faultOf 49 = .ok (.iconst 0, 1) := by decide +kernel
theorem dX10_faultOf_50 : decode cX10_faultOf 50 = .ok (.goto 9, 3) := by decide +kernel
theorem dX10_faultOf_53 : decode cX10_faultOf 53 = .ok (.iconst (-1), 1) := by decide +kernel
theorem dX10_faultOf_54 : decode cX10_faultOf 54 = .ok (.aload_n 0, 1) := by decide +kernel
theorem dX10_faultOf_55 : decode cX10_faultOf 55 = .ok (.getfield 29, 3) := by decide +kernel
theorem dX10_faultOf_58 : decode cX10_faultOf 58 = .ok (.isub, 1) := by decide +kernel
theorem dX10_faultOf_59 : decode cX10_faultOf 59 = .ok (.ireturn, 1) := by decide +kernel
theorem dX10_codes_0 : decode cX10_codes 0 = .ok (.aload_n 0, 1) := by decide +kernel
theorem dX10_codes_1 : decode cX10_codes 1 = .ok (.getfield 70, 3) := by decide +kernel
theorem dX10_codes_4 : decode cX10_codes 4 = .ok (.aload_n 0, 1) := by decide +kernel
theorem dX10_codes_5 : decode cX10_codes 5 = .ok (.getfield 73, 3) := by decide +kernel
theorem dX10_codes_8 : decode cX10_codes 8 = .ok (.iload_n 1, 1) := by decide +kernel
theorem dX10_codes_9 : decode cX10_codes 9 = .ok (.iastore, 1) := by decide +kernel
theorem dX10_codes_10 : decode cX10_codes 10 = .ok (.aload_n 0, 1) := by decide +kernel
theorem dX10_codes_11 : decode cX10_codes 11 = .ok (.dup, 1) := by decide +kernel
theorem dX10_codes_12 : decode cX10_codes 12 = .ok (.getfield 73, 3) := by decide +kernel
theorem dX10_codes_15 : decode cX10_codes 15 = .ok (.iconst 1, 1) := by decide +kernel
theorem dX10_codes_16 : decode cX10_codes 16 = .ok (.iadd, 1) := by decide +kernel
theorem dX10_codes_17 : decode cX10_codes 17 = .ok (.putfield 73, 3) := by decide +kernel
theorem dX10_codes_20 : decode cX10_codes 20 = .ok (.return_, 1) := by decide +kernel
theorem dX10_readsThing_0 : decode cX10_readsThing 0 = .ok (.aload_n 0, 1) := by decide +kernel
theorem dX10_readsThing_1 : decode cX10_readsThing 1 = .ok (.bipush 45, 2) := by decide +kernel
theorem dX10_readsThing_3 : decode cX10_readsThing 3 = .ok (.invokevirtual 76, 3) := by decide +kernel
theorem dX10_readsThing_6 : decode cX10_readsThing 6 = .ok (.ifCond .eq 17, 3) := by decide +kernel
theorem dX10_readsThing_9 : decode cX10_readsThing 9 = .ok (.aload_n 0, 1) := by decide +kernel
theorem dX10_readsThing_10 : decode cX10_readsThing 10 = .ok (.invokevirtual 80, 3) := by decide +kernel
theorem dX10_readsThing_13 : decode cX10_readsThing 13 = .ok (.istore_n 1, 1) := by decide +kernel
theorem dX10_readsThing_14 : decode cX10_readsThing 14 = .ok (.aload_n 0, 1) := by decide +kernel
theorem dX10_readsThing_15 : decode cX10_readsThing 15 = .ok (.sipush 3000, 3) := by decide +kernel
theorem dX10_readsThing_18 : decode cX10_readsThing 18 = .ok (.invokevirtual 83, 3) := by decide +kernel
theorem dX10_readsThing_21 : decode cX10_readsThing 21 = .ok (.iload_n 1, 1) := by decide +kernel
theorem dX10_readsThing_22 : decode cX10_readsThing 22 = .ok (.ireturn, 1) := by decide +kernel
theorem dX10_readsThing_23 : decode cX10_readsThing 23 = .ok (.aload_n 0, 1) := by decide +kernel
theorem dX10_readsThing_24 : decode cX10_readsThing 24 = .ok (.invokevirtual 62, 3) := by decide +kernel
theorem dX10_readsThing_27 : decode cX10_readsThing 27 = .ok (.ifCond .eq 14, 3) := by decide +kernel
theorem dX10_readsThing_30 : decode cX10_readsThing 30 = .ok (.aload_n 0, 1) := by decide +kernel
theorem dX10_readsThing_31 : decode cX10_readsThing 31 = .ok (.aload_n 0, 1) := by decide +kernel
theorem dX10_readsThing_32 : decode cX10_readsThing 32 = .ok (.iconst 3, 1) := by decide +kernel
theorem dX10_readsThing_33 : decode cX10_readsThing 33 = .ok (.invokevirtual 66, 3) := by decide +kernel
theorem dX10_readsThing_36 : decode cX10_readsThing 36 = .ok (.invokevirtual 83, 3) := by decide +kernel
theorem dX10_readsThing_39 : decode cX10_readsThing 39 = .ok (.iconst 1, 1) := by decide +kernel
theorem dX10_readsThing_40 : decode cX10_readsThing 40 = .ok (.ireturn, 1) := by decide +kernel
theorem dX10_readsThing_41 : decode cX10_readsThing 41 = .ok (.aload_n 0, 1) := by decide +kernel
theorem dX10_readsThing_42 : decode cX10_readsThing 42 = .ok (.ldc 87, 2) := by decide +kernel
theorem dX10_readsThing_44 : decode cX10_readsThing 44 = .ok (.invokevirtual 89, 3) := by decide +kernel
theorem dX10_readsThing_47 : decode cX10_readsThing 47 = .ok (.istore_n 1, 1) := by decide +kernel
theorem dX10_readsThing_48 : decode cX10_readsThing 48 = .ok (.iload_n 1, 1) := by decide +kernel
theorem dX10_readsThing_49 : decode cX10_readsThing 49 = .ok (.ifCond .lt 14, 3) := by decide +kernel
theorem dX10_readsThing_52 : decode cX10_readsThing 52 = .ok (.aload_n 0, 1) := by decide +kernel
theorem dX10_readsThing_53 : decode cX10_readsThing 53 = .ok (.sipush 1000, 3) := by decide +kernel
theorem dX10_readsThing_56 : decode cX10_readsThing 56 = .ok (.iload_n 1, 1) := by decide +kernel
theorem dX10_readsThing_57 : decode cX10_readsThing 57 = .ok (.iadd, 1) := by decide +kernel
theorem dX10_readsThing_58 : decode cX10_readsThing 58 = .ok (.invokevirtual 83, 3) := by decide +kernel
theorem dX10_readsThing_61 : decode cX10_readsThing 61 = .ok (.iconst 1, 1) := by decide +kernel
theorem dX10_readsThing_62 : decode cX10_readsThing 62 = .ok (.ireturn, 1) := by decide +kernel
theorem dX10_readsThing_63 : decode cX10_readsThing 63 = .ok (.aload_n 0, 1) := by decide +kernel
theorem dX10_readsThing_64 : decode cX10_readsThing 64 = .ok (.getfield 32, 3) := by decide +kernel
theorem dX10_readsThing_67 : decode cX10_readsThing 67 = .ok (.iconst 4, 1) := by decide +kernel
theorem dX10_readsThing_68 : decode cX10_readsThing 68 = .ok (.if_icmp .eq 12, 3) := by decide +kernel
theorem dX10_readsThing_71 : decode cX10_readsThing 71 = .ok (.aload_n 0, 1) := by decide +kernel
theorem dX10_readsThing_72 : decode cX10_readsThing 72 = .ok (.bipush 40, 2) := by decide +kernel
theorem dX10_readsThing_74 : decode cX10_readsThing 74 = .ok (.invokevirtual 76, 3) := by decide +kernel
theorem dX10_readsThing_77 : decode cX10_readsThing 77 = .ok (.ifCond .ne 5, 3) := by decide +kernel
theorem dX10_readsThing_80 : decode cX10_readsThing 80 = .ok (.iconst 0, 1) := by decide +kernel
theorem dX10_readsThing_81 : decode cX10_readsThing 81 = .ok (.ireturn, 1) := by decide +kernel
theorem dX10_readsThing_82 : decode cX10_readsThing 82 = .ok (.aload_n 0, 1) := by decide +kernel
theorem dX10_readsThing_83 : decode cX10_readsThing 83 = .ok (.dup, 1) := by decide +kernel
theorem dX10_readsThing_84 : decode cX10_readsThing 84 = .ok (.getfield 32, 3) := by decide +kernel
theorem dX10_readsThing_87 : decode cX10_readsThing 87 = .ok (.iconst 1, 1) := by decide +kernel
theorem dX10_readsThing_88 : decode cX10_readsThing 88 = .ok (.iadd, 1) := by decide +kernel
theorem dX10_readsThing_89 : decode cX10_readsThing 89 = .ok (.putfield 32, 3) := by decide +kernel
theorem dX10_readsThing_92 : decode cX10_readsThing 92 = .ok (.aload_n 0, 1) := by decide +kernel
theorem dX10_readsThing_93 : decode cX10_readsThing 93 = .ok (.iconst 0, 1) := by decide +kernel
theorem dX10_readsThing_94 : decode cX10_readsThing 94 = .ok (.invokevirtual 93, 3) := by decide +kernel
theorem dX10_readsThing_97 : decode cX10_readsThing 97 = .ok (.ifCond .eq 12, 3) := by decide +kernel
theorem dX10_readsThing_100 : decode cX10_readsThing 100 = .ok (.aload_n 0, 1) := by decide +kernel
theorem dX10_readsThing_101 : decode cX10_readsThing 101 = .ok (.bipush 41, 2) := by decide +kernel
theorem dX10_readsThing_103 : decode cX10_readsThing 103 = .ok (.invokevirtual 76, 3) := by decide +kernel
theorem dX10_readsThing_106 : decode cX10_readsThing 106 = .ok (.ifCond .ne 5, 3) := by decide +kernel
theorem dX10_readsThing_109 : decode cX10_readsThing 109 = .ok (.iconst 0, 1) := by decide +kernel
theorem dX10_readsThing_110 : decode cX10_readsThing 110 = .ok (.ireturn, 1) := by decide +kernel
theorem dX10_readsThing_111 : decode cX10_readsThing 111 = .ok (.aload_n 0, 1) := by decide +kernel
theorem dX10_readsThing_112 : decode cX10_readsThing 112 = .ok (.dup, 1) := by decide +kernel
theorem dX10_readsThing_113 : decode cX10_readsThing 113 = .ok (.getfield 32, 3) := by decide +kernel
theorem dX10_readsThing_116 : decode cX10_readsThing 116 = .ok (.iconst 1, 1) := by decide +kernel
theorem dX10_readsThing_117 : decode cX10_readsThing 117 = .ok (.isub, 1) := by decide +kernel
theorem dX10_readsThing_118 : decode cX10_readsThing 118 = .ok (.putfield 32, 3) := by decide +kernel
theorem dX10_readsThing_121 : decode cX10_readsThing 121 = .ok (.iconst 1, 1) := by decide +kernel
theorem dX10_readsThing_122 : decode cX10_readsThing 122 = .ok (.ireturn, 1) := by decide +kernel
theorem dX10_readsRank_0 : decode cX10_readsRank 0 = .ok (.iload_n 1, 1) := by decide +kernel
theorem dX10_readsRank_1 : decode cX10_readsRank 1 = .ok (.iconst 3, 1) := by decide +kernel
theorem dX10_readsRank_2 : decode cX10_readsRank 2 = .ok (.if_icmp .ne 8, 3) := by decide +kernel
theorem dX10_readsRank_5 : decode cX10_readsRank 5 = .ok (.aload_n 0, 1) := by decide +kernel
theorem dX10_readsRank_6 : decode cX10_readsRank 6 = .ok (.invokevirtual 80, 3) := by decide +kernel
theorem dX10_readsRank_9 : decode cX10_readsRank 9 = .ok (.ireturn, 1) := by decide +kernel
theorem dX10_readsRank_10 : decode cX10_readsRank 10 = .ok (.aload_n 0, 1) := by decide +kernel
theorem dX10_readsRank_11 : decode cX10_readsRank 11 = .ok (.iload_n 1, 1) := by decide +kernel
theorem dX10_readsRank_12 : decode cX10_readsRank 12 = .ok (.iconst 1, 1) := by decide +kernel
theorem dX10_readsRank_13 : decode cX10_readsRank 13 = .ok (.iadd, 1) := by decide +kernel
theorem dX10_readsRank_14 : decode cX10_readsRank 14 = .ok (.invokevirtual 93, 3) := by decide +kernel
theorem dX10_readsRank_17 : decode cX10_readsRank 17 = .ok (.ifCond .ne 5, 3) := by decide +kernel
theorem dX10_readsRank_20 : decode cX10_readsRank 20 = .ok (.iconst 0, 1) := by decide +kernel
theorem dX10_readsRank_21 : decode cX10_readsRank 21 = .ok (.ireturn, 1) := by decide +kernel
theorem dX10_readsRank_22 : decode cX10_readsRank 22 = .ok (.iconst 1, 1) := by decide +kernel
theorem dX10_readsRank_23 : decode cX10_readsRank 23 = .ok (.istore_n 2, 1) := by decide +kernel
theorem dX10_readsRank_24 : decode cX10_readsRank 24 = .ok (.iload_n 2, 1) := by decide +kernel
theorem dX10_readsRank_25 : decode cX10_readsRank 25 = .ok (.ifCond .eq 88, 3) := by decide +kernel
theorem dX10_readsRank_28 : decode cX10_readsRank 28 = .ok (.aload_n 0, 1) := by decide +kernel
theorem dX10_readsRank_29 : decode cX10_readsRank 29 = .ok (.iload_n 1, 1) := by decide +kernel
theorem dX10_readsRank_30 : decode cX10_readsRank 30 = .ok (.ifCond .ne 8, 3) := by decide +kernel
theorem dX10_readsRank_33 : decode cX10_readsRank 33 = .ok (.ldc 96, 2) := by decide +kernel
theorem dX10_readsRank_35 : decode cX10_readsRank 35 = .ok (.goto 15, 3) := by decide +kernel
theorem dX10_readsRank_38 : decode cX10_readsRank 38 = .ok (.iload_n 1, 1) := by decide +kernel
theorem dX10_readsRank_39 : decode cX10_readsRank 39 = .ok (.iconst 1, 1) := by decide +kernel
theorem dX10_readsRank_40 : decode cX10_readsRank 40 = .ok (.if_icmp .ne 8, 3) := by decide +kernel
theorem dX10_readsRank_43 : decode cX10_readsRank 43 = .ok (.ldc 98, 2) := by decide +kernel
theorem dX10_readsRank_45 : decode cX10_readsRank 45 = .ok (.goto 5, 3) := by decide +kernel
theorem dX10_readsRank_48 : decode cX10_readsRank 48 = .ok (.ldc 100, 2) := by decide +kernel
theorem dX10_readsRank_50 : decode cX10_readsRank 50 = .ok (.invokevirtual 89, 3) := by decide +kernel
theorem dX10_readsRank_53 : decode cX10_readsRank 53 = .ok (.istore_n 3, 1) := by decide +kernel
theorem dX10_readsRank_54 : decode cX10_readsRank 54 = .ok (.iload_n 3, 1) := by decide +kernel
theorem dX10_readsRank_55 : decode cX10_readsRank 55 = .ok (.ifCond .ge 5, 3) := by decide +kernel
theorem dX10_readsRank_58 : decode cX10_readsRank 58 = .ok (.iconst 1, 1) := by decide +kernel
theorem dX10_readsRank_59 : decode cX10_readsRank 59 = .ok (.ireturn, 1) := by decide +kernel
theorem dX10_readsRank_60 : decode cX10_readsRank 60 = .ok (.aload_n 0, 1) := by decide +kernel
theorem dX10_readsRank_61 : decode cX10_readsRank 61 = .ok (.iload_n 1, 1) := by decide +kernel
theorem dX10_readsRank_62 : decode cX10_readsRank 62 = .ok (.iconst 1, 1) := by decide +kernel
theorem dX10_readsRank_63 : decode cX10_readsRank 63 = .ok (.iadd, 1) := by decide +kernel
theorem dX10_readsRank_64 : decode cX10_readsRank 64 = .ok (.invokevirtual 93, 3) := by decide +kernel
theorem dX10_readsRank_67 : decode cX10_readsRank 67 = .ok (.ifCond .ne 5, 3) := by decide +kernel
theorem dX10_readsRank_70 : decode cX10_readsRank 70 = .ok (.iconst 0, 1) := by decide +kernel
theorem dX10_readsRank_71 : decode cX10_readsRank 71 = .ok (.ireturn, 1) := by decide +kernel
theorem dX10_readsRank_72 : decode cX10_readsRank 72 = .ok (.aload_n 0, 1) := by decide +kernel
theorem dX10_readsRank_73 : decode cX10_readsRank 73 = .ok (.sipush 2000, 3) := by decide +kernel
theorem dX10_readsRank_76 : decode cX10_readsRank 76 = .ok (.iload_n 3, 1) := by decide +kernel
theorem dX10_readsRank_77 : decode cX10_readsRank 77 = .ok (.iadd, 1) := by decide +kernel
theorem dX10_readsRank_78 : decode cX10_readsRank 78 = .ok (.iload_n 1, 1) := by decide +kernel
theorem dX10_readsRank_79 : decode cX10_readsRank 79 = .ok (.ifCond .ne 7, 3) := by decide +kernel
theorem dX10_readsRank_82 : decode cX10_readsRank 82 = .ok (.iconst 0, 1) := by decide +kernel
theorem dX10_readsRank_83 : decode cX10_readsRank 83 = .ok (.goto 13, 3) := by decide +kernel
theorem dX10_readsRank_86 : decode cX10_readsRank 86 = .ok (.iload_n 1, 1) := by decide +kernel
theorem dX10_readsRank_87 : decode cX10_readsRank 87 = .ok (.iconst 1, 1) := by decide +kernel
theorem dX10_readsRank_88 : decode cX10_readsRank 88 = .ok (.if_icmp .ne 7, 3) := by decide +kernel
theorem dX10_readsRank_91 : decode cX10_readsRank 91 = .ok (.iconst 3, 1) := by decide +kernel
theorem dX10_readsRank_92 : decode cX10_readsRank 92 = .ok (.goto 4, 3) := by decide +kernel
theorem dX10_readsRank_95 : decode cX10_readsRank 95 = .ok (.iconst 5, 1) := by decide +kernel
theorem dX10_readsRank_96 : decode cX10_readsRank 96 = .ok (.iadd, 1) := by decide +kernel
theorem dX10_readsRank_97 : decode cX10_readsRank 97 = .ok (.invokevirtual 83, 3) := by decide +kernel
theorem dX10_readsRank_100 : decode cX10_readsRank 100 = .ok (.iload_n 1, 1) := by decide +kernel
theorem dX10_readsRank_101 : decode cX10_readsRank 101 = .ok (.ifCond .le 7, 3) := by decide +kernel
theorem dX10_readsRank_104 : decode cX10_readsRank 104 = .ok (.iconst 1, 1) := by decide +kernel
theorem dX10_readsRank_105 : decode cX10_readsRank 105 = .ok (.goto 4, 3) := by decide +kernel
theorem dX10_readsRank_108 : decode cX10_readsRank 108 = .ok (.iconst 0, 1) := by decide +kernel
theorem dX10_readsRank_109 : decode cX10_readsRank 109 = .ok (.istore_n 2, 1) := by decide +kernel
theorem dX10_readsRank_110 : decode cX10_readsRank 110 = .ok (.goto (-86), 3) := by decide +kernel
theorem dX10_readsRank_113 : decode cX10_readsRank 113 = .ok (.iconst 1, 1) := by decide +kernel
theorem dX10_readsRank_114 : decode cX10_readsRank 114 = .ok (.ireturn, 1) := by decide +kernel
theorem dX10_worked_0 : decode cX10_worked 0 = .ok (.iload_n 0, 1) := by decide +kernel
theorem dX10_worked_1 : decode cX10_worked 1 = .ok (.tableswitch 93 0 5 #[39, 53, 67, 81, 85, 89], 39) := by decide +kernel
theorem dX10_worked_40 : decode cX10_worked 40 = .ok (.iload_n 1, 1) := by decide +kernel
theorem dX10_worked_41 : decode cX10_worked 41 = .ok (.iload_n 2, 1) := by decide +kernel
theorem dX10_worked_42 : decode cX10_worked 42 = .ok (.if_icmp .ge 7, 3) := by decide +kernel
theorem dX10_worked_45 : decode cX10_worked 45 = .ok (.iconst 1, 1) := by decide +kernel
theorem dX10_worked_46 : decode cX10_worked 46 = .ok (.goto 4, 3) := by decide +kernel
theorem dX10_worked_49 : decode cX10_worked 49 = .ok (.iconst 0, 1) := by decide +kernel
theorem dX10_worked_50 : decode cX10_worked 50 = .ok (.invokestatic 44, 3) := by decide +kernel
theorem dX10_worked_53 : decode cX10_worked 53 = .ok (.ireturn, 1) := by decide +kernel
theorem dX10_worked_54 : decode cX10_worked 54 = .ok (.iload_n 1, 1) := by decide +kernel
theorem dX10_worked_55 : decode cX10_worked 55 = .ok (.iload_n 2, 1) := by decide +kernel
theorem dX10_worked_56 : decode cX10_worked 56 = .ok (.if_icmp .le 7, 3) := by decide +kernel
theorem dX10_worked_59 : decode cX10_worked 59 = .ok (.iconst 1, 1) := by decide +kernel
theorem dX10_worked_60 : decode cX10_worked 60 = .ok (.goto 4, 3) := by decide +kernel
theorem dX10_worked_63 : decode cX10_worked 63 = .ok (.iconst 0, 1) := by decide +kernel
theorem dX10_worked_64 : decode cX10_worked 64 = .ok (.invokestatic 44, 3) := by decide +kernel
theorem dX10_worked_67 : decode cX10_worked 67 = .ok (.ireturn, 1) := by decide +kernel
theorem dX10_worked_68 : decode cX10_worked 68 = .ok (.iload_n 1, 1) := by decide +kernel
theorem dX10_worked_69 : decode cX10_worked 69 = .ok (.iload_n 2, 1) := by decide +kernel
theorem dX10_worked_70 : decode cX10_worked 70 = .ok (.if_icmp .ne 7, 3) := by decide +kernel
theorem dX10_worked_73 : decode cX10_worked 73 = .ok (.iconst 1, 1) := by decide +kernel
theorem dX10_worked_74 : decode cX10_worked 74 = .ok (.goto 4, 3) := by decide +kernel
theorem dX10_worked_77 : decode cX10_worked 77 = .ok (.iconst 0, 1) := by decide +kernel
theorem dX10_worked_78 : decode cX10_worked 78 = .ok (.invokestatic 44, 3) := by decide +kernel
theorem dX10_worked_81 : decode cX10_worked 81 = .ok (.ireturn, 1) := by decide +kernel
theorem dX10_worked_82 : decode cX10_worked 82 = .ok (.iload_n 1, 1) := by decide +kernel
theorem dX10_worked_83 : decode cX10_worked 83 = .ok (.iload_n 2, 1) := by decide +kernel
theorem dX10_worked_84 : decode cX10_worked 84 = .ok (.iadd, 1) := by decide +kernel
theorem dX10_worked_85 : decode cX10_worked 85 = .ok (.ireturn, 1) := by decide +kernel
theorem dX10_worked_86 : decode cX10_worked 86 = .ok (.iload_n 1, 1) := by decide +kernel
theorem dX10_worked_87 : decode cX10_worked 87 = .ok (.iload_n 2, 1) := by decide +kernel
theorem dX10_worked_88 : decode cX10_worked 88 = .ok (.isub, 1) := by decide +kernel
theorem dX10_worked_89 : decode cX10_worked 89 = .ok (.ireturn, 1) := by decide +kernel
theorem dX10_worked_90 : decode cX10_worked 90 = .ok (.iload_n 1, 1) := by decide +kernel
theorem dX10_worked_91 : decode cX10_worked 91 = .ok (.iload_n 2, 1) := by decide +kernel
theorem dX10_worked_92 : decode cX10_worked 92 = .ok (.imul, 1) := by decide +kernel
theorem dX10_worked_93 : decode cX10_worked 93 = .ok (.ireturn, 1) := by decide +kernel
theorem dX10_worked_94 : decode cX10_worked 94 = .ok (.iload_n 2, 1) := by decide +kernel
theorem dX10_worked_95 : decode cX10_worked 95 = .ok (.ifCond .ne 7, 3) := by decide +kernel
theorem dX10_worked_98 : decode cX10_worked 98 = .ok (.iconst 0, 1) := by decide +kernel
theorem dX10_worked_99 : decode cX10_worked 99 = .ok (.goto 6, 3) := by decide +kernel
theorem dX10_worked_102 : decode cX10_worked 102 = .ok (.iload_n 1, 1) := by decide +kernel
theorem dX10_worked_103 : decode cX10_worked 103 = .ok (.iload_n 2, 1) := by decide +kernel
theorem dX10_worked_104 : decode cX10_worked 104 = .ok (.idiv, 1) := by decide +kernel
theorem dX10_worked_105 : decode cX10_worked 105 = .ok (.ireturn, 1) := by decide +kernel
theorem dX10_worth_0 : decode cX10_worth 0 = .ok (.iconst 0, 1) := by decide +kernel
theorem dX10_worth_1 : decode cX10_worth 1 = .ok (.istore_n 1, 1) := by decide +kernel
theorem dX10_worth_2 : decode cX10_worth 2 = .ok (.iconst 0, 1) := by decide +kernel
theorem dX10_worth_3 : decode cX10_worth 3 = .ok (.istore_n 2, 1) := by decide +kernel
theorem dX10_worth_4 : decode cX10_worth 4 = .ok (.iload_n 2, 1) := by decide +kernel
theorem dX10_worth_5 : decode cX10_worth 5 = .ok (.aload_n 0, 1) := by decide +kernel
theorem dX10_worth_6 : decode cX10_worth 6 = .ok (.getfield 73, 3) := by decide +kernel
theorem dX10_worth_9 : decode cX10_worth 9 = .ok (.if_icmp .ge 116, 3) := by decide +kernel
theorem dX10_worth_12 : decode cX10_worth 12 = .ok (.aload_n 0, 1) := by decide +kernel
theorem dX10_worth_13 : decode cX10_worth 13 = .ok (.getfield 70, 3) := by decide +kernel
theorem dX10_worth_16 : decode cX10_worth 16 = .ok (.iload_n 2, 1) := by decide +kernel
theorem dX10_worth_17 : decode cX10_worth 17 = .ok (.iaload, 1) := by decide +kernel
theorem dX10_worth_18 : decode cX10_worth 18 = .ok (.istore_n 3, 1) := by decide +kernel
theorem dX10_worth_19 : decode cX10_worth 19 = .ok (.iload_n 3, 1) := by decide +kernel
theorem dX10_worth_20 : decode cX10_worth 20 = .ok (.sipush 3000, 3) := by decide +kernel
theorem dX10_worth_23 : decode cX10_worth 23 = .ok (.if_icmp .ne 23, 3) := by decide +kernel
theorem dX10_worth_26 : decode cX10_worth 26 = .ok (.aload_n 0, 1) := by decide +kernel
theorem dX10_worth_27 : decode cX10_worth 27 = .ok (.getfield 102, 3) := by decide +kernel
theorem dX10_worth_30 : decode cX10_worth 30 = .ok (.iload_n 1, 1) := by decide +kernel
theorem dX10_worth_31 : decode cX10_worth 31 = .ok (.iconst 1, 1) := by decide +kernel
theorem dX10_worth_32 : decode cX10_worth 32 = .ok (.isub, 1) := by decide +kernel
theorem dX10_worth_33 : decode cX10_worth 33 = .ok (.aload_n 0, 1) := by decide +kernel
theorem dX10_worth_34 : decode cX10_worth 34 = .ok (.getfield 102, 3) := by decide +kernel
theorem dX10_worth_37 : decode cX10_worth 37 = .ok (.iload_n 1, 1) := by decide +kernel
theorem dX10_worth_38 : decode cX10_worth 38 = .ok (.iconst 1, 1) := by decide +kernel
theorem dX10_worth_39 : decode cX10_worth 39 = .ok (.isub, 1) := by decide +kernel
theorem dX10_worth_40 : decode cX10_worth 40 = .ok (.iaload, 1) := by decide +kernel
theorem dX10_worth_41 : decode cX10_worth 41 = .ok (.ineg, 1) := by decide +kernel
theorem dX10_worth_42 : decode cX10_worth 42 = .ok (.iastore, 1) := by decide +kernel
theorem dX10_worth_43 : decode cX10_worth 43 = .ok (.goto 76, 3) := by decide +kernel
theorem dX10_worth_46 : decode cX10_worth 46 = .ok (.iload_n 3, 1) := by decide +kernel
theorem dX10_worth_47 : decode cX10_worth 47 = .ok (.sipush 2000, 3) := by decide +kernel
theorem dX10_worth_50 : decode cX10_worth 50 = .ok (.if_icmp .lt 39, 3) := by decide +kernel
theorem dX10_worth_53 : decode cX10_worth 53 = .ok (.iinc 1 (-1), 3) := by decide +kernel
theorem dX10_worth_56 : decode cX10_worth 56 = .ok (.aload_n 0, 1) := by decide +kernel
theorem dX10_worth_57 : decode cX10_worth 57 = .ok (.getfield 102, 3) := by decide +kernel
theorem dX10_worth_60 : decode cX10_worth 60 = .ok (.iload_n 1, 1) := by decide +kernel
theorem dX10_worth_61 : decode cX10_worth 61 = .ok (.iconst 1, 1) := by decide +kernel
theorem dX10_worth_62 : decode cX10_worth 62 = .ok (.isub, 1) := by decide +kernel
theorem dX10_worth_63 : decode cX10_worth 63 = .ok (.iload_n 3, 1) := by decide +kernel
theorem dX10_worth_64 : decode cX10_worth 64 = .ok (.sipush 2000, 3) := by decide +kernel
theorem dX10_worth_67 : decode cX10_worth 67 = .ok (.isub, 1) := by decide +kernel
theorem dX10_worth_68 : decode cX10_worth 68 = .ok (.aload_n 0, 1) := by decide +kernel
theorem dX10_worth_69 : decode cX10_worth 69 = .ok (.getfield 102, 3) := by decide +kernel
theorem dX10_worth_72 : decode cX10_worth 72 = .ok (.iload_n 1, 1) := by decide +kernel
theorem dX10_worth_73 : decode cX10_worth 73 = .ok (.iconst 1, 1) := by decide +kernel
theorem dX10_worth_74 : decode cX10_worth 74 = .ok (.isub, 1) := by decide +kernel
theorem dX10_worth_75 : decode cX10_worth 75 = .ok (.iaload, 1) := by decide +kernel
theorem dX10_worth_76 : decode cX10_worth 76 = .ok (.aload_n 0, 1) := by decide +kernel
theorem dX10_worth_77 : decode cX10_worth 77 = .ok (.getfield 102, 3) := by decide +kernel
theorem dX10_worth_80 : decode cX10_worth 80 = .ok (.iload_n 1, 1) := by decide +kernel
theorem dX10_worth_81 : decode cX10_worth 81 = .ok (.iaload, 1) := by decide +kernel
theorem dX10_worth_82 : decode cX10_worth 82 = .ok (.invokestatic 105, 3) := by decide +kernel
theorem dX10_worth_85 : decode cX10_worth 85 = .ok (.iastore, 1) := by decide +kernel
theorem dX10_worth_86 : decode cX10_worth 86 = .ok (.goto 33, 3) := by decide +kernel
theorem dX10_worth_89 : decode cX10_worth 89 = .ok (.aload_n 0, 1) := by decide +kernel
theorem dX10_worth_90 : decode cX10_worth 90 = .ok (.getfield 102, 3) := by decide +kernel
theorem dX10_worth_93 : decode cX10_worth 93 = .ok (.iload_n 1, 1) := by decide +kernel
theorem dX10_worth_94 : decode cX10_worth 94 = .ok (.iload_n 3, 1) := by decide +kernel
theorem dX10_worth_95 : decode cX10_worth 95 = .ok (.sipush 1000, 3) := by decide +kernel
theorem dX10_worth_98 : decode cX10_worth 98 = .ok (.if_icmp .lt 16, 3) := by decide +kernel
theorem dX10_worth_101 : decode cX10_worth 101 = .ok (.aload_n 0, 1) := by decide +kernel
theorem dX10_worth_102 : decode cX10_worth 102 = .ok (.getfield 109, 3) := by decide +kernel
theorem dX10_worth_105 : decode cX10_worth 105 = .ok (.iload_n 3, 1) := by decide +kernel
theorem dX10_worth_106 : decode cX10_worth 106 = .ok (.sipush 1000, 3) := by decide +kernel
theorem dX10_worth_109 : decode cX10_worth 109 = .ok (.isub, 1) := by decide +kernel
theorem dX10_worth_110 : decode cX10_worth 110 = .ok (.iaload, 1) := by decide +kernel
theorem dX10_worth_111 : decode cX10_worth 111 = .ok (.goto 4, 3) := by decide +kernel
theorem dX10_worth_114 : decode cX10_worth 114 = .ok (.iload_n 3, 1) := by decide +kernel
theorem dX10_worth_115 : decode cX10_worth 115 = .ok (.iastore, 1) := by decide +kernel
theorem dX10_worth_116 : decode cX10_worth 116 = .ok (.iinc 1 1, 3) := by decide +kernel
theorem dX10_worth_119 : decode cX10_worth 119 = .ok (.iinc 2 1, 3) := by decide +kernel
theorem dX10_worth_122 : decode cX10_worth 122 = .ok (.goto (-118), 3) := by decide +kernel
theorem dX10_worth_125 : decode cX10_worth 125 = .ok (.aload_n 0, 1) := by decide +kernel
theorem dX10_worth_126 : decode cX10_worth 126 = .ok (.getfield 102, 3) := by decide +kernel
theorem dX10_worth_129 : decode cX10_worth 129 = .ok (.iconst 0, 1) := by decide +kernel
theorem dX10_worth_130 : decode cX10_worth 130 = .ok (.iaload, 1) := by decide +kernel
theorem dX10_worth_131 : decode cX10_worth 131 = .ok (.ireturn, 1) := by decide +kernel
theorem dX10_init_0 : decode cX10_init 0 = .ok (.aload_n 0, 1) := by decide +kernel
theorem dX10_init_1 : decode cX10_init 1 = .ok (.invokespecial 112, 3) := by decide +kernel
theorem dX10_init_4 : decode cX10_init 4 = .ok (.aload_n 0, 1) := by decide +kernel
theorem dX10_init_5 : decode cX10_init 5 = .ok (.bipush 24, 2) := by decide +kernel
theorem dX10_init_7 : decode cX10_init 7 = .ok (.newarray .long, 2) := by decide +kernel
theorem dX10_init_9 : decode cX10_init 9 = .ok (.putfield 11, 3) := by decide +kernel
theorem dX10_init_12 : decode cX10_init 12 = .ok (.aload_n 0, 1) := by decide +kernel
theorem dX10_init_13 : decode cX10_init 13 = .ok (.bipush 80, 2) := by decide +kernel
theorem dX10_init_15 : decode cX10_init 15 = .ok (.newarray .int, 2) := by decide +kernel
theorem dX10_init_17 : decode cX10_init 17 = .ok (.putfield 21, 3) := by decide +kernel
theorem dX10_init_20 : decode cX10_init 20 = .ok (.aload_n 0, 1) := by decide +kernel
theorem dX10_init_21 : decode cX10_init 21 = .ok (.bipush 80, 2) := by decide +kernel
theorem dX10_init_23 : decode cX10_init 23 = .ok (.newarray .int, 2) := by decide +kernel
theorem dX10_init_25 : decode cX10_init 25 = .ok (.putfield 70, 3) := by decide +kernel
theorem dX10_init_28 : decode cX10_init 28 = .ok (.aload_n 0, 1) := by decide +kernel
theorem dX10_init_29 : decode cX10_init 29 = .ok (.bipush 80, 2) := by decide +kernel
theorem dX10_init_31 : decode cX10_init 31 = .ok (.newarray .int, 2) := by decide +kernel
theorem dX10_init_33 : decode cX10_init 33 = .ok (.putfield 102, 3) := by decide +kernel
theorem dX10_init_36 : decode cX10_init 36 = .ok (.aload_n 0, 1) := by decide +kernel
theorem dX10_init_37 : decode cX10_init 37 = .ok (.bipush 7, 2) := by decide +kernel
theorem dX10_init_39 : decode cX10_init 39 = .ok (.newarray .int, 2) := by decide +kernel
theorem dX10_init_41 : decode cX10_init 41 = .ok (.putfield 109, 3) := by decide +kernel
theorem dX10_init_44 : decode cX10_init 44 = .ok (.aload_n 0, 1) := by decide +kernel
theorem dX10_init_45 : decode cX10_init 45 = .ok (.sipush 2001, 3) := by decide +kernel
theorem dX10_init_48 : decode cX10_init 48 = .ok (.newarray .int, 2) := by decide +kernel
theorem dX10_init_50 : decode cX10_init 50 = .ok (.putfield 118, 3) := by decide +kernel
theorem dX10_init_53 : decode cX10_init 53 = .ok (.aload_n 0, 1) := by decide +kernel
theorem dX10_init_54 : decode cX10_init 54 = .ok (.sipush 2001, 3) := by decide +kernel
theorem dX10_init_57 : decode cX10_init 57 = .ok (.newarray .int, 2) := by decide +kernel
theorem dX10_init_59 : decode cX10_init 59 = .ok (.putfield 121, 3) := by decide +kernel
theorem dX10_init_62 : decode cX10_init 62 = .ok (.aload_n 0, 1) := by decide +kernel
theorem dX10_init_63 : decode cX10_init 63 = .ok (.sipush 2001, 3) := by decide +kernel
theorem dX10_init_66 : decode cX10_init 66 = .ok (.newarray .int, 2) := by decide +kernel
theorem dX10_init_68 : decode cX10_init 68 = .ok (.putfield 124, 3) := by decide +kernel
theorem dX10_init_71 : decode cX10_init 71 = .ok (.aload_n 0, 1) := by decide +kernel
theorem dX10_init_72 : decode cX10_init 72 = .ok (.sipush 22011, 3) := by decide +kernel
theorem dX10_init_75 : decode cX10_init 75 = .ok (.newarray .int, 2) := by decide +kernel
theorem dX10_init_77 : decode cX10_init 77 = .ok (.putfield 127, 3) := by decide +kernel
theorem dX10_init_80 : decode cX10_init 80 = .ok (.aload_n 0, 1) := by decide +kernel
theorem dX10_init_81 : decode cX10_init 81 = .ok (.bipush 80, 2) := by decide +kernel
theorem dX10_init_83 : decode cX10_init 83 = .ok (.newarray .int, 2) := by decide +kernel
theorem dX10_init_85 : decode cX10_init 85 = .ok (.putfield 130, 3) := by decide +kernel
theorem dX10_init_88 : decode cX10_init 88 = .ok (.aload_n 0, 1) := by decide +kernel
theorem dX10_init_89 : decode cX10_init 89 = .ok (.bipush 80, 2) := by decide +kernel
theorem dX10_init_91 : decode cX10_init 91 = .ok (.iconst 5, 1) := by decide +kernel
theorem dX10_init_92 : decode cX10_init 92 = .ok (.multianewarray 133 2, 4) := by decide +kernel
theorem dX10_init_96 : decode cX10_init 96 = .ok (.putfield 135, 3) := by decide +kernel
theorem dX10_init_99 : decode cX10_init 99 = .ok (.aload_n 0, 1) := by decide +kernel
theorem dX10_init_100 : decode cX10_init 100 = .ok (.bipush 100, 2) := by decide +kernel
theorem dX10_init_102 : decode cX10_init 102 = .ok (.newarray .int, 2) := by decide +kernel
theorem dX10_init_104 : decode cX10_init 104 = .ok (.putfield 138, 3) := by decide +kernel
theorem dX10_init_107 : decode cX10_init 107 = .ok (.aload_n 0, 1) := by decide +kernel
theorem dX10_init_108 : decode cX10_init 108 = .ok (.bipush 20, 2) := by decide +kernel
theorem dX10_init_110 : decode cX10_init 110 = .ok (.newarray .int, 2) := by decide +kernel
theorem dX10_init_112 : decode cX10_init 112 = .ok (.putfield 141, 3) := by decide +kernel
theorem dX10_init_115 : decode cX10_init 115 = .ok (.aload_n 0, 1) := by decide +kernel
theorem dX10_init_116 : decode cX10_init 116 = .ok (.bipush 20, 2) := by decide +kernel
theorem dX10_init_118 : decode cX10_init 118 = .ok (.newarray .int, 2) := by decide +kernel
theorem dX10_init_120 : decode cX10_init 120 = .ok (.putfield 144, 3) := by decide +kernel
theorem dX10_init_123 : decode cX10_init 123 = .ok (.aload_n 0, 1) := by decide +kernel
theorem dX10_init_124 : decode cX10_init 124 = .ok (.bipush 20, 2) := by decide +kernel
theorem dX10_init_126 : decode cX10_init 126 = .ok (.newarray .int, 2) := by decide +kernel
theorem dX10_init_128 : decode cX10_init 128 = .ok (.putfield 147, 3) := by decide +kernel
theorem dX10_init_131 : decode cX10_init 131 = .ok (.aload_n 0, 1) := by decide +kernel
theorem dX10_init_132 : decode cX10_init 132 = .ok (.iconst 2, 1) := by decide +kernel
theorem dX10_init_133 : decode cX10_init 133 = .ok (.newarray .boolean, 2) := by decide +kernel
theorem dX10_init_135 : decode cX10_init 135 = .ok (.putfield 150, 3) := by decide +kernel
theorem dX10_init_138 : decode cX10_init 138 = .ok (.aload_n 0, 1) := by decide +kernel
theorem dX10_init_139 : decode cX10_init 139 = .ok (.sipush 4002, 3) := by decide +kernel
theorem dX10_init_142 : decode cX10_init 142 = .ok (.newarray .int, 2) := by decide +kernel
theorem dX10_init_144 : decode cX10_init 144 = .ok (.putfield 154, 3) := by decide +kernel
theorem dX10_init_147 : decode cX10_init 147 = .ok (.aload_n 0, 1) := by decide +kernel
theorem dX10_init_148 : decode cX10_init 148 = .ok (.bipush 12, 2) := by decide +kernel
theorem dX10_init_150 : decode cX10_init 150 = .ok (.newarray .int, 2) := by decide +kernel
theorem dX10_init_152 : decode cX10_init 152 = .ok (.putfield 157, 3) := by decide +kernel
theorem dX10_init_155 : decode cX10_init 155 = .ok (.aload_n 0, 1) := by decide +kernel
theorem dX10_init_156 : decode cX10_init 156 = .ok (.bipush 12, 2) := by decide +kernel
theorem dX10_init_158 : decode cX10_init 158 = .ok (.newarray .int, 2) := by decide +kernel
theorem dX10_init_160 : decode cX10_init 160 = .ok (.putfield 160, 3) := by decide +kernel
theorem dX10_init_163 : decode cX10_init 163 = .ok (.return_, 1) := by decide +kernel
theorem dX10_isTable_0 : decode cX10_isTable 0 = .ok (.iload_n 0, 1) := by decide +kernel
theorem dX10_isTable_1 : decode cX10_isTable 1 = .ok (.i2l, 1) := by decide +kernel
theorem dX10_isTable_2 : decode cX10_isTable 2 = .ok (.lconst 0, 1) := by decide +kernel
theorem dX10_isTable_3 : decode cX10_isTable 3 = .ok (.lconst 1, 1) := by decide +kernel
theorem dX10_isTable_4 : decode cX10_isTable 4 = .ok (.invokestatic 25, 3) := by decide +kernel
theorem dX10_isTable_7 : decode cX10_isTable 7 = .ok (.ireturn, 1) := by decide +kernel
theorem dX10_isKey_0 : decode cX10_isKey 0 = .ok (.iload_n 0, 1) := by decide +kernel
theorem dX10_isKey_1 : decode cX10_isKey 1 = .ok (.i2l, 1) := by decide +kernel
theorem dX10_isKey_2 : decode cX10_isKey 2 = .ok (.lconst 0, 1) := by decide +kernel
theorem dX10_isKey_3 : decode cX10_isKey 3 = .ok (.ldc2_w 163, 3) := by decide +kernel
theorem dX10_isKey_6 : decode cX10_isKey 6 = .ok (.invokestatic 25, 3) := by decide +kernel
theorem dX10_isKey_9 : decode cX10_isKey 9 = .ok (.ireturn, 1) := by decide +kernel
theorem dX10_isDay_0 : decode cX10_isDay 0 = .ok (.iload_n 0, 1) := by decide +kernel
theorem dX10_isDay_1 : decode cX10_isDay 1 = .ok (.i2l, 1) := by decide +kernel
theorem dX10_isDay_2 : decode cX10_isDay 2 = .ok (.lconst 0, 1) := by decide +kernel
theorem dX10_isDay_3 : decode cX10_isDay 3 = .ok (.ldc2_w 165, 3) := by decide +kernel
theorem dX10_isDay_6 : decode cX10_isDay 6 = .ok (.invokestatic 25, 3) := by decide +kernel
theorem dX10_isDay_9 : decode cX10_isDay 9 = .ok (.ireturn, 1) := by decide +kernel
theorem dX10_isPeriod_0 : decode cX10_isPeriod 0 = .ok (.iload_n 0, 1) := by decide +kernel
theorem dX10_isPeriod_1 : decode cX10_isPeriod 1 = .ok (.invokestatic 167, 3) := by decide +kernel
theorem dX10_isPeriod_4 : decode cX10_isPeriod 4 = .ok (.ifCond .eq 18, 3) := by decide +kernel
theorem dX10_isPeriod_7 : decode cX10_isPeriod 7 = .ok (.iload_n 1, 1) := by decide +kernel
theorem dX10_isPeriod_8 : decode cX10_isPeriod 8 = .ok (.iload_n 0, 1) := by decide +kernel
theorem dX10_isPeriod_9 : decode cX10_isPeriod 9 = .ok (.if_icmp .le 13, 3) := by decide +kernel
theorem dX10_isPeriod_12 : decode cX10_isPeriod 12 = .ok (.iload_n 1, 1) := by decide +kernel
theorem dX10_isPeriod_13 : decode cX10_isPeriod 13 = .ok (.bipush 100, 2) := by decide +kernel
theorem dX10_isPeriod_15 : decode cX10_isPeriod 15 = .ok (.if_icmp .gt 7, 3) := by decide +kernel
theorem dX10_isPeriod_18 : decode cX10_isPeriod 18 = .ok (.iconst 1, 1) := by decide +kernel
theorem dX10_isPeriod_19 : decode cX10_isPeriod 19 = .ok (.goto 4, 3) := by decide +kernel
theorem dX10_isPeriod_22 : decode cX10_isPeriod 22 = .ok (.iconst 0, 1) := by decide +kernel
theorem dX10_isPeriod_23 : decode cX10_isPeriod 23 = .ok (.ireturn, 1) := by decide +kernel
theorem dX10_on_0 : decode cX10_on 0 = .ok (.sipush 1000, 3) := by decide +kernel
theorem dX10_on_3 : decode cX10_on 3 = .ok (.iload_n 0, 1) := by decide +kernel
theorem dX10_on_4 : decode cX10_on 4 = .ok (.imul, 1) := by decide +kernel
theorem dX10_on_5 : decode cX10_on 5 = .ok (.bipush 100, 2) := by decide +kernel
theorem dX10_on_7 : decode cX10_on 7 = .ok (.iload_n 1, 1) := by decide +kernel
theorem dX10_on_8 : decode cX10_on 8 = .ok (.imul, 1) := by decide +kernel
theorem dX10_on_9 : decode cX10_on 9 = .ok (.iadd, 1) := by decide +kernel
theorem dX10_on_10 : decode cX10_on 10 = .ok (.iload_n 2, 1) := by decide +kernel
theorem dX10_on_11 : decode cX10_on 11 = .ok (.iadd, 1) := by decide +kernel
theorem dX10_on_12 : decode cX10_on 12 = .ok (.ireturn, 1) := by decide +kernel
theorem dX10_isThere_0 : decode cX10_isThere 0 = .ok (.iload_n 3, 1) := by decide +kernel
theorem dX10_isThere_1 : decode cX10_isThere 1 = .ok (.invokestatic 167, 3) := by decide +kernel
theorem dX10_isThere_4 : decode cX10_isThere 4 = .ok (.ifCond .eq 18, 3) := by decide +kernel
theorem dX10_isThere_7 : decode cX10_isThere 7 = .ok (.aload_n 0, 1) := by decide +kernel
theorem dX10_isThere_8 : decode cX10_isThere 8 = .ok (.iload_n 1, 1) := by decide +kernel
theorem dX10_isThere_9 : decode cX10_isThere 9 = .ok (.iload_n 2, 1) := by decide +kernel
theorem dX10_isThere_10 : decode cX10_isThere 10 = .ok (.iload_n 3, 1) := by decide +kernel
theorem dX10_isThere_11 : decode cX10_isThere 11 = .ok (.invokestatic 170, 3) := by decide +kernel
theorem dX10_isThere_14 : decode cX10_isThere 14 = .ok (.iaload, 1) := by decide +kernel
theorem dX10_isThere_15 : decode cX10_isThere 15 = .ok (.ifCond .le 7, 3) := by decide +kernel
theorem dX10_isThere_18 : decode cX10_isThere 18 = .ok (.iconst 1, 1) := by decide +kernel
theorem dX10_isThere_19 : decode cX10_isThere 19 = .ok (.goto 4, 3) := by decide +kernel
theorem dX10_isThere_22 : decode cX10_isThere 22 = .ok (.iconst 0, 1) := by decide +kernel
theorem dX10_isThere_23 : decode cX10_isThere 23 = .ok (.ireturn, 1) := by decide +kernel
theorem dX10_valueOn_0 : decode cX10_valueOn 0 = .ok (.aload_n 0, 1) := by decide +kernel
theorem dX10_valueOn_1 : decode cX10_valueOn 1 = .ok (.iload_n 1, 1) := by decide +kernel
theorem dX10_valueOn_2 : decode cX10_valueOn 2 = .ok (.iload_n 2, 1) := by decide +kernel
theorem dX10_valueOn_3 : decode cX10_valueOn 3 = .ok (.iload_n 3, 1) := by decide +kernel
theorem dX10_valueOn_4 : decode cX10_valueOn 4 = .ok (.invokestatic 170, 3) := by decide +kernel
theorem dX10_valueOn_7 : decode cX10_valueOn 7 = .ok (.iaload, 1) := by decide +kernel
theorem dX10_valueOn_8 : decode cX10_valueOn 8 = .ok (.iconst 1, 1) := by decide +kernel
theorem dX10_valueOn_9 : decode cX10_valueOn 9 = .ok (.isub, 1) := by decide +kernel
theorem dX10_valueOn_10 : decode cX10_valueOn 10 = .ok (.iconst 2, 1) := by decide +kernel
theorem dX10_valueOn_11 : decode cX10_valueOn 11 = .ok (.idiv, 1) := by decide +kernel
theorem dX10_valueOn_12 : decode cX10_valueOn 12 = .ok (.bipush 11, 2) := by decide +kernel
theorem dX10_valueOn_14 : decode cX10_valueOn 14 = .ok (.idiv, 1) := by decide +kernel
theorem dX10_valueOn_15 : decode cX10_valueOn 15 = .ok (.ireturn, 1) := by decide +kernel
theorem dX10_refOn_0 : decode cX10_refOn 0 = .ok (.aload_n 0, 1) := by decide +kernel
theorem dX10_refOn_1 : decode cX10_refOn 1 = .ok (.iload_n 1, 1) := by decide +kernel
theorem dX10_refOn_2 : decode cX10_refOn 2 = .ok (.iload_n 2, 1) := by decide +kernel
theorem dX10_refOn_3 : decode cX10_refOn 3 = .ok (.iload_n 3, 1) := by decide +kernel
theorem dX10_refOn_4 : decode cX10_refOn 4 = .ok (.invokestatic 170, 3) := by decide +kernel
theorem dX10_refOn_7 : decode cX10_refOn 7 = .ok (.iaload, 1) := by decide +kernel
theorem dX10_refOn_8 : decode cX10_refOn 8 = .ok (.iconst 1, 1) := by decide +kernel
theorem dX10_refOn_9 : decode cX10_refOn 9 = .ok (.isub, 1) := by decide +kernel
theorem dX10_refOn_10 : decode cX10_refOn 10 = .ok (.iconst 2, 1) := by decide +kernel
theorem dX10_refOn_11 : decode cX10_refOn 11 = .ok (.idiv, 1) := by decide +kernel
theorem dX10_refOn_12 : decode cX10_refOn 12 = .ok (.bipush 11, 2) := by decide +kernel
theorem dX10_refOn_14 : decode cX10_refOn 14 = .ok (.irem, 1) := by decide +kernel
theorem dX10_refOn_15 : decode cX10_refOn 15 = .ok (.ireturn, 1) := by decide +kernel
theorem dX10_begins_0 : decode cX10_begins 0 = .ok (.aload_n 0, 1) := by decide +kernel
theorem dX10_begins_1 : decode cX10_begins 1 = .ok (.iload_n 1, 1) := by decide +kernel
theorem dX10_begins_2 : decode cX10_begins 2 = .ok (.iload_n 2, 1) := by decide +kernel
theorem dX10_begins_3 : decode cX10_begins 3 = .ok (.iload_n 3, 1) := by decide +kernel
theorem dX10_begins_4 : decode cX10_begins 4 = .ok (.invokestatic 173, 3) := by decide +kernel
theorem dX10_begins_7 : decode cX10_begins 7 = .ok (.ifCond .eq 23, 3) := by decide +kernel
theorem dX10_begins_10 : decode cX10_begins 10 = .ok (.aload_n 0, 1) := by decide +kernel
theorem dX10_begins_11 : decode cX10_begins 11 = .ok (.iload_n 1, 1) := by decide +kernel
theorem dX10_begins_12 : decode cX10_begins 12 = .ok (.iload_n 2, 1) := by decide +kernel
theorem dX10_begins_13 : decode cX10_begins 13 = .ok (.iload_n 3, 1) := by decide +kernel
theorem dX10_begins_14 : decode cX10_begins 14 = .ok (.invokestatic 170, 3) := by decide +kernel
theorem dX10_begins_17 : decode cX10_begins 17 = .ok (.iaload, 1) := by decide +kernel
theorem dX10_begins_18 : decode cX10_begins 18 = .ok (.iconst 1, 1) := by decide +kernel
theorem dX10_begins_19 : decode cX10_begins 19 = .ok (.isub, 1) := by decide +kernel
theorem dX10_begins_20 : decode cX10_begins 20 = .ok (.iconst 2, 1) := by decide +kernel
theorem dX10_begins_21 : decode cX10_begins 21 = .ok (.irem, 1) := by decide +kernel
theorem dX10_begins_22 : decode cX10_begins 22 = .ok (.iconst 1, 1) := by decide +kernel
theorem dX10_begins_23 : decode cX10_begins 23 = .ok (.if_icmp .ne 7, 3) := by decide +kernel
theorem dX10_begins_26 : decode cX10_begins 26 = .ok (.iconst 1, 1) := by decide +kernel
theorem dX10_begins_27 : decode cX10_begins 27 = .ok (.goto 4, 3) := by decide +kernel
theorem dX10_begins_30 : decode cX10_begins 30 = .ok (.iconst 0, 1) := by decide +kernel
theorem dX10_begins_31 : decode cX10_begins 31 = .ok (.ireturn, 1) := by decide +kernel
theorem dX10_lays_0 : decode cX10_lays 0 = .ok (.aload_n 0, 1) := by decide +kernel
theorem dX10_lays_1 : decode cX10_lays 1 = .ok (.iload_n 1, 1) := by decide +kernel
theorem dX10_lays_2 : decode cX10_lays 2 = .ok (.iload_n 2, 1) := by decide +kernel
theorem dX10_lays_3 : decode cX10_lays 3 = .ok (.iload_n 3, 1) := by decide +kernel
theorem dX10_lays_4 : decode cX10_lays 4 = .ok (.invokestatic 170, 3) := by decide +kernel
theorem dX10_lays_7 : decode cX10_lays 7 = .ok (.iconst 1, 1) := by decide +kernel
theorem dX10_lays_8 : decode cX10_lays 8 = .ok (.iconst 2, 1) := by decide +kernel
theorem dX10_lays_9 : decode cX10_lays 9 = .ok (.bipush 11, 2) := by decide +kernel
theorem dX10_lays_11 : decode cX10_lays 11 = .ok (.iload 4, 2) := by decide +kernel
theorem dX10_lays_13 : decode cX10_lays 13 = .ok (.imul, 1) := by decide +kernel
theorem dX10_lays_14 : decode cX10_lays 14 = .ok (.iload 5, 2) := by decide +kernel
theorem dX10_lays_16 : decode cX10_lays 16 = .ok (.iadd, 1) := by decide +kernel
theorem dX10_lays_17 : decode cX10_lays 17 = .ok (.imul, 1) := by decide +kernel
theorem dX10_lays_18 : decode cX10_lays 18 = .ok (.iadd, 1) := by decide +kernel
theorem dX10_lays_19 : decode cX10_lays 19 = .ok (.iload 6, 2) := by decide +kernel
theorem dX10_lays_21 : decode cX10_lays 21 = .ok (.invokestatic 44, 3) := by decide +kernel
theorem dX10_lays_24 : decode cX10_lays 24 = .ok (.iadd, 1) := by decide +kernel
theorem dX10_lays_25 : decode cX10_lays 25 = .ok (.iastore, 1) := by decide +kernel
theorem dX10_lays_26 : decode cX10_lays 26 = .ok (.return_, 1) := by decide +kernel
theorem dX10_splits_0 : decode cX10_splits 0 = .ok (.aload_n 0, 1) := by decide +kernel
theorem dX10_splits_1 : decode cX10_splits 1 = .ok (.iload_n 1, 1) := by decide +kernel
theorem dX10_splits_2 : decode cX10_splits 2 = .ok (.iload_n 2, 1) := by decide +kernel
theorem dX10_splits_3 : decode cX10_splits 3 = .ok (.iload_n 3, 1) := by decide +kernel
theorem dX10_splits_4 : decode cX10_splits 4 = .ok (.invokestatic 173, 3) := by decide +kernel
theorem dX10_splits_7 : decode cX10_splits 7 = .ok (.ifCond .eq 25, 3) := by decide +kernel
theorem dX10_splits_10 : decode cX10_splits 10 = .ok (.aload_n 0, 1) := by decide +kernel
theorem dX10_splits_11 : decode cX10_splits 11 = .ok (.iload_n 1, 1) := by decide +kernel
theorem dX10_splits_12 : decode cX10_splits 12 = .ok (.iload_n 2, 1) := by decide +kernel
theorem dX10_splits_13 : decode cX10_splits 13 = .ok (.iload_n 3, 1) := by decide +kernel
theorem dX10_splits_14 : decode cX10_splits 14 = .ok (.aload_n 0, 1) := by decide +kernel
theorem dX10_splits_15 : decode cX10_splits 15 = .ok (.iload_n 1, 1) := by decide +kernel
theorem dX10_splits_16 : decode cX10_splits 16 = .ok (.iload_n 2, 1) := by decide +kernel
theorem dX10_splits_17 : decode cX10_splits 17 = .ok (.iload_n 3, 1) := by decide +kernel
theorem dX10_splits_18 : decode cX10_splits 18 = .ok (.invokestatic 177, 3) := by decide +kernel
theorem dX10_splits_21 : decode cX10_splits 21 = .ok (.aload_n 0, 1) := by decide +kernel
theorem dX10_splits_22 : decode cX10_splits 22 = .ok (.iload_n 1, 1) := by decide +kernel
theorem dX10_splits_23 : decode cX10_splits 23 = .ok (.iload_n 2, 1) := by decide +kernel
theorem dX10_splits_24 : decode cX10_splits 24 = .ok (.iload_n 3, 1) := by decide +kernel
theorem dX10_splits_25 : decode cX10_splits 25 = .ok (.invokestatic 181, 3) := by decide +kernel
theorem dX10_splits_28 : decode cX10_splits 28 = .ok (.iconst 1, 1) := by decide +kernel
theorem dX10_splits_29 : decode cX10_splits 29 = .ok (.invokestatic 184, 3) := by decide +kernel
theorem dX10_splits_32 : decode cX10_splits 32 = .ok (.return_, 1) := by decide +kernel
theorem dX10_fromOf_0 : decode cX10_fromOf 0 = .ok (.iload_n 3, 1) := by decide +kernel
theorem dX10_fromOf_1 : decode cX10_fromOf 1 = .ok (.istore 4, 2) := by decide +kernel
theorem dX10_fromOf_3 : decode cX10_fromOf 3 = .ok (.aload_n 0, 1) := by decide +kernel
theorem dX10_fromOf_4 : decode cX10_fromOf 4 = .ok (.iload_n 1, 1) := by decide +kernel
theorem dX10_fromOf_5 : decode cX10_fromOf 5 = .ok (.iload_n 2, 1) := by decide +kernel
theorem dX10_fromOf_6 : decode cX10_fromOf 6 = .ok (.iload 4, 2) := by decide +kernel
theorem dX10_fromOf_8 : decode cX10_fromOf 8 = .ok (.invokestatic 188, 3) := by decide +kernel
theorem dX10_fromOf_11 : decode cX10_fromOf 11 = .ok (.ifCond .ne 9, 3) := by decide +kernel
theorem dX10_fromOf_14 : decode cX10_fromOf 14 = .ok (.iinc 4 (-1), 3) := by decide +kernel
theorem dX10_fromOf_17 : decode cX10_fromOf 17 = .ok (.goto (-14), 3) := by decide +kernel
theorem dX10_fromOf_20 : decode cX10_fromOf 20 = .ok (.iload 4, 2) := by decide +kernel
theorem dX10_fromOf_22 : decode cX10_fromOf 22 = .ok (.ireturn, 1) := by decide +kernel
theorem dX10_toOf_0 : decode cX10_toOf 0 = .ok (.iload_n 3, 1) := by decide +kernel
theorem dX10_toOf_1 : decode cX10_toOf 1 = .ok (.iconst 1, 1) := by decide +kernel
theorem dX10_toOf_2 : decode cX10_toOf 2 = .ok (.iadd, 1) := by decide +kernel
theorem dX10_toOf_3 : decode cX10_toOf 3 = .ok (.istore 4, 2) := by decide +kernel
theorem dX10_toOf_5 : decode cX10_toOf 5 = .ok (.aload_n 0, 1) := by decide +kernel
theorem dX10_toOf_6 : decode cX10_toOf 6 = .ok (.iload_n 1, 1) := by decide +kernel
theorem dX10_toOf_7 : decode cX10_toOf 7 = .ok (.iload_n 2, 1) := by decide +kernel
theorem dX10_toOf_8 : decode cX10_toOf 8 = .ok (.iload 4, 2) := by decide +kernel
theorem dX10_toOf_10 : decode cX10_toOf 10 = .ok (.invokestatic 173, 3) := by decide +kernel
theorem dX10_toOf_13 : decode cX10_toOf 13 = .ok (.ifCond .eq 20, 3) := by decide +kernel
theorem dX10_toOf_16 : decode cX10_toOf 16 = .ok (.aload_n 0, 1) := by decide +kernel
theorem dX10_toOf_17 : decode cX10_toOf 17 = .ok (.iload_n 1, 1) := by decide +kernel
theorem dX10_toOf_18 : decode cX10_toOf 18 = .ok (.iload_n 2, 1) := by decide +kernel
theorem dX10_toOf_19 : decode cX10_toOf 19 = .ok (.iload 4, 2) := by decide +kernel
theorem dX10_toOf_21 : decode cX10_toOf 21 = .ok (.invokestatic 188, 3) := by decide +kernel
theorem dX10_toOf_24 : decode cX10_toOf 24 = .ok (.ifCond .ne 9, 3) := by decide +kernel
theorem dX10_toOf_27 : decode cX10_toOf 27 = .ok (.iinc 4 1, 3) := by decide +kernel
theorem dX10_toOf_30 : decode cX10_toOf 30 = .ok (.goto (-25), 3) := by decide +kernel
theorem dX10_toOf_33 : decode cX10_toOf 33 = .ok (.iload 4, 2) := by decide +kernel
theorem dX10_toOf_35 : decode cX10_toOf 35 = .ok (.ireturn, 1) := by decide +kernel
theorem dX10_rowsOf_0 : decode cX10_rowsOf 0 = .ok (.iconst 0, 1) := by decide +kernel
theorem dX10_rowsOf_1 : decode cX10_rowsOf 1 = .ok (.istore_n 2, 1) := by decide +kernel
theorem dX10_rowsOf_2 : decode cX10_rowsOf 2 = .ok (.iconst 0, 1) := by decide +kernel
theorem dX10_rowsOf_3 : decode cX10_rowsOf 3 = .ok (.istore_n 3, 1) := by decide +kernel
theorem dX10_rowsOf_4 : decode cX10_rowsOf 4 = .ok (.iload_n 3, 1) := by decide +kernel
theorem dX10_rowsOf_5 : decode cX10_rowsOf 5 = .ok (.bipush 10, 2) := by decide +kernel
theorem dX10_rowsOf_7 : decode cX10_rowsOf 7 = .ok (.if_icmp .ge 39, 3) := by decide +kernel
theorem dX10_rowsOf_10 : decode cX10_rowsOf 10 = .ok (.iconst 0, 1) := by decide +kernel
theorem dX10_rowsOf_11 : decode cX10_rowsOf 11 = .ok (.istore 4, 2) := by decide +kernel
theorem dX10_rowsOf_13 : decode cX10_rowsOf 13 = .ok (.iload 4, 2) := by decide +kernel
theorem dX10_rowsOf_15 : decode cX10_rowsOf 15 = .ok (.bipush 100, 2) := by decide +kernel
theorem dX10_rowsOf_17 : decode cX10_rowsOf 17 = .ok (.if_icmp .ge 23, 3) := by decide +kernel
theorem dX10_rowsOf_20 : decode cX10_rowsOf 20 = .ok (.iload_n 2, 1) := by decide +kernel
theorem dX10_rowsOf_21 : decode cX10_rowsOf 21 = .ok (.aload_n 0, 1) := by decide +kernel
theorem dX10_rowsOf_22 : decode cX10_rowsOf 22 = .ok (.iload_n 1, 1) := by decide +kernel
theorem dX10_rowsOf_23 : decode cX10_rowsOf 23 = .ok (.iload_n 3, 1) := by decide +kernel
theorem dX10_rowsOf_24 : decode cX10_rowsOf 24 = .ok (.iload 4, 2) := by decide +kernel
theorem dX10_rowsOf_26 : decode cX10_rowsOf 26 = .ok (.invokestatic 188, 3) := by decide +kernel
theorem dX10_rowsOf_29 : decode cX10_rowsOf 29 = .ok (.invokestatic 44, 3) := by decide +kernel
theorem dX10_rowsOf_32 : decode cX10_rowsOf 32 = .ok (.iadd, 1) := by decide +kernel
theorem dX10_rowsOf_33 : decode cX10_rowsOf 33 = .ok (.istore_n 2, 1) := by decide +kernel
theorem dX10_rowsOf_34 : decode cX10_rowsOf 34 = .ok (.iinc 4 1, 3) := by decide +kernel
theorem dX10_rowsOf_37 : decode cX10_rowsOf 37 = .ok (.goto (-24), 3) := by decide +kernel
theorem dX10_rowsOf_40 : decode cX10_rowsOf 40 = .ok (.iinc 3 1, 3) := by decide +kernel
theorem dX10_rowsOf_43 : decode cX10_rowsOf 43 = .ok (.goto (-39), 3) := by decide +kernel
theorem dX10_rowsOf_46 : decode cX10_rowsOf 46 = .ok (.iload_n 2, 1) := by decide +kernel
theorem dX10_rowsOf_47 : decode cX10_rowsOf 47 = .ok (.ireturn, 1) := by decide +kernel
theorem dX10_daysOf_0 : decode cX10_daysOf 0 = .ok (.iconst 0, 1) := by decide +kernel
theorem dX10_daysOf_1 : decode cX10_daysOf 1 = .ok (.istore_n 2, 1) := by decide +kernel
theorem dX10_daysOf_2 : decode cX10_daysOf 2 = .ok (.iconst 0, 1) := by decide +kernel
theorem dX10_daysOf_3 : decode cX10_daysOf 3 = .ok (.istore_n 3, 1) := by decide +kernel
theorem dX10_daysOf_4 : decode cX10_daysOf 4 = .ok (.iload_n 3, 1) := by decide +kernel
theorem dX10_daysOf_5 : decode cX10_daysOf 5 = .ok (.bipush 10, 2) := by decide +kernel
theorem dX10_daysOf_7 : decode cX10_daysOf 7 = .ok (.if_icmp .ge 39, 3) := by decide +kernel
theorem dX10_daysOf_10 : decode cX10_daysOf 10 = .ok (.iconst 0, 1) := by decide +kernel
theorem dX10_daysOf_11 : decode cX10_daysOf 11 = .ok (.istore 4, 2) := by decide +kernel
theorem dX10_daysOf_13 : decode cX10_daysOf 13 = .ok (.iload 4, 2) := by decide +kernel
theorem dX10_daysOf_15 : decode cX10_daysOf 15 = .ok (.bipush 100, 2) := by decide +kernel
theorem dX10_daysOf_17 : decode cX10_daysOf 17 = .ok (.if_icmp .ge 23, 3) := by decide +kernel
theorem dX10_daysOf_20 : decode cX10_daysOf 20 = .ok (.iload_n 2, 1) := by decide +kernel
theorem dX10_daysOf_21 : decode cX10_daysOf 21 = .ok (.aload_n 0, 1) := by decide +kernel
theorem dX10_daysOf_22 : decode cX10_daysOf 22 = .ok (.iload_n 1, 1) := by decide +kernel
theorem dX10_daysOf_23 : decode cX10_daysOf 23 = .ok (.iload_n 3, 1) := by decide +kernel
theorem dX10_daysOf_24 : decode cX10_daysOf 24 = .ok (.iload 4, 2) := by decide +kernel
theorem dX10_daysOf_26 : decode cX10_daysOf 26 = .ok (.invokestatic 173, 3) := by decide +kernel
theorem dX10_daysOf_29 : decode cX10_daysOf 29 = .ok (.invokestatic 44, 3) := by decide +kernel
theorem dX10_daysOf_32 : decode cX10_daysOf 32 = .ok (.iadd, 1) := by decide +kernel
theorem dX10_daysOf_33 : decode cX10_daysOf 33 = .ok (.istore_n 2, 1) := by decide +kernel
theorem dX10_daysOf_34 : decode cX10_daysOf 34 = .ok (.iinc 4 1, 3) := by decide +kernel
theorem dX10_daysOf_37 : decode cX10_daysOf 37 = .ok (.goto (-24), 3) := by decide +kernel
theorem dX10_daysOf_40 : decode cX10_daysOf 40 = .ok (.iinc 3 1, 3) := by decide +kernel
theorem dX10_daysOf_43 : decode cX10_daysOf 43 = .ok (.goto (-39), 3) := by decide +kernel
theorem dX10_daysOf_46 : decode cX10_daysOf 46 = .ok (.iload_n 2, 1) := by decide +kernel
theorem dX10_daysOf_47 : decode cX10_daysOf 47 = .ok (.ireturn, 1) := by decide +kernel
theorem dX10_seeks_0 : decode cX10_seeks 0 = .ok (.iload_n 3, 1) := by decide +kernel
theorem dX10_seeks_1 : decode cX10_seeks 1 = .ok (.istore 4, 2) := by decide +kernel
theorem dX10_seeks_3 : decode cX10_seeks 3 = .ok (.iconst 0, 1) := by decide +kernel
theorem dX10_seeks_4 : decode cX10_seeks 4 = .ok (.istore 5, 2) := by decide +kernel
theorem dX10_seeks_6 : decode cX10_seeks 6 = .ok (.iload 5, 2) := by decide +kernel
theorem dX10_seeks_8 : decode cX10_seeks 8 = .ok (.bipush 10, 2) := by decide +kernel
theorem dX10_seeks_10 : decode cX10_seeks 10 = .ok (.if_icmp .ge 59, 3) := by decide +kernel
theorem dX10_seeks_13 : decode cX10_seeks 13 = .ok (.iconst 0, 1) := by decide +kernel
theorem dX10_seeks_14 : decode cX10_seeks 14 = .ok (.istore 6, 2) := by decide +kernel
theorem dX10_seeks_16 : decode cX10_seeks 16 = .ok (.iload 6, 2) := by decide +kernel
theorem dX10_seeks_18 : decode cX10_seeks 18 = .ok (.bipush 100, 2) := by decide +kernel
theorem dX10_seeks_20 : decode cX10_seeks 20 = .ok (.if_icmp .ge 43, 3) := by decide +kernel
theorem dX10_seeks_23 : decode cX10_seeks 23 = .ok (.aload_n 1, 1) := by decide +kernel
theorem dX10_seeks_24 : decode cX10_seeks 24 = .ok (.iload_n 2, 1) := by decide +kernel
theorem dX10_seeks_25 : decode cX10_seeks 25 = .ok (.iload 5, 2) := by decide +kernel
theorem dX10_seeks_27 : decode cX10_seeks 27 = .ok (.iload 6, 2) := by decide +kernel
theorem dX10_seeks_29 : decode cX10_seeks 29 = .ok (.invokestatic 188, 3) := by decide +kernel
theorem dX10_seeks_32 : decode cX10_seeks 32 = .ok (.ifCond .eq 25, 3) := by decide +kernel
theorem dX10_seeks_35 : decode cX10_seeks 35 = .ok (.iload 4, 2) := by decide +kernel
theorem dX10_seeks_37 : decode cX10_seeks 37 = .ok (.ifCond .ne 17, 3) := by decide +kernel
theorem dX10_seeks_40 : decode cX10_seeks 40 = .ok (.aload_n 0, 1) := by decide +kernel
theorem dX10_seeks_41 : decode cX10_seeks 41 = .ok (.iload 5, 2) := by decide +kernel
theorem dX10_seeks_43 : decode cX10_seeks 43 = .ok (.putfield 191, 3) := by decide +kernel
theorem dX10_seeks_46 : decode cX10_seeks 46 = .ok (.aload_n 0, 1) := by decide +kernel
theorem dX10_seeks_47 : decode cX10_seeks 47 = .ok (.iload 6, 2) := by decide +kernel
theorem dX10_seeks_49 : decode cX10_seeks 49 = .ok (.putfield 194, 3) := by decide +kernel
theorem dX10_seeks_52 : decode cX10_seeks 52 = .ok (.iconst 1, 1) := by decide +kernel
theorem dX10_seeks_53 : decode cX10_seeks 53 = .ok (.ireturn, 1) := by decide +kernel
theorem dX10_seeks_54 : decode cX10_seeks 54 = .ok (.iinc 4 (-1), 3) := by decide +kernel
theorem dX10_seeks_57 : decode cX10_seeks 57 = .ok (.iinc 6 1, 3) := by decide +kernel
theorem dX10_seeks_60 : decode cX10_seeks 60 = .ok (.goto (-44), 3) := by decide +kernel
theorem dX10_seeks_63 : decode cX10_seeks 63 = .ok (.iinc 5 1, 3) := by decide +kernel
theorem dX10_seeks_66 : decode cX10_seeks 66 = .ok (.goto (-60), 3) := by decide +kernel
theorem dX10_seeks_69 : decode cX10_seeks 69 = .ok (.iconst 0, 1) := by decide +kernel
theorem dX10_seeks_70 : decode cX10_seeks 70 = .ok (.ireturn, 1) := by decide +kernel
theorem dX10_numberOf_0 : decode cX10_numberOf 0 = .ok (.iconst 0, 1) := by decide +kernel
theorem dX10_numberOf_1 : decode cX10_numberOf 1 = .ok (.istore 4, 2) := by decide +kernel
theorem dX10_numberOf_3 : decode cX10_numberOf 3 = .ok (.iconst 0, 1) := by decide +kernel
theorem dX10_numberOf_4 : decode cX10_numberOf 4 = .ok (.istore 5, 2) := by decide +kernel
theorem dX10_numberOf_6 : decode cX10_numberOf 6 = .ok (.iload 5, 2) := by decide +kernel
theorem dX10_numberOf_8 : decode cX10_numberOf 8 = .ok (.iload_n 2, 1) := by decide +kernel
theorem dX10_numberOf_9 : decode cX10_numberOf 9 = .ok (.if_icmp .gt 62, 3) := by decide +kernel
theorem dX10_numberOf_12 : decode cX10_numberOf 12 = .ok (.iconst 0, 1) := by decide +kernel
theorem dX10_numberOf_13 : decode cX10_numberOf 13 = .ok (.istore 6, 2) := by decide +kernel
theorem dX10_numberOf_15 : decode cX10_numberOf 15 = .ok (.iload 6, 2) := by decide +kernel
theorem dX10_numberOf_17 : decode cX10_numberOf 17 = .ok (.bipush 100, 2) := by decide +kernel
theorem dX10_numberOf_19 : decode cX10_numberOf 19 = .ok (.if_icmp .ge 46, 3) := by decide +kernel
theorem dX10_numberOf_22 : decode cX10_numberOf 22 = .ok (.iload 4, 2) := by decide +kernel
theorem dX10_numberOf_24 : decode cX10_numberOf 24 = .ok (.iload 5, 2) := by decide +kernel
theorem dX10_numberOf_26 : decode cX10_numberOf 26 = .ok (.iload_n 2, 1) := by decide +kernel
theorem dX10_numberOf_27 : decode cX10_numberOf 27 = .ok (.if_icmp .lt 9, 3) := by decide +kernel
theorem dX10_numberOf_30 : decode cX10_numberOf 30 = .ok (.iload 6, 2) := by decide +kernel
theorem dX10_numberOf_32 : decode cX10_numberOf 32 = .ok (.iload_n 3, 1) := by decide +kernel
theorem dX10_numberOf_33 : decode cX10_numberOf 33 = .ok (.if_icmp .ge 19, 3) := by decide +kernel
theorem dX10_numberOf_36 : decode cX10_numberOf 36 = .ok (.aload_n 0, 1) := by decide +kernel
theorem dX10_numberOf_37 : decode cX10_numberOf 37 = .ok (.iload_n 1, 1) := by decide +kernel
theorem dX10_numberOf_38 : decode cX10_numberOf 38 = .ok (.iload 5, 2) := by decide +kernel
theorem dX10_numberOf_40 : decode cX10_numberOf 40 = .ok (.iload 6, 2) := by decide +kernel
theorem dX10_numberOf_42 : decode cX10_numberOf 42 = .ok (.invokestatic 188, 3) := by decide +kernel
theorem dX10_numberOf_45 : decode cX10_numberOf 45 = .ok (.ifCond .eq 7, 3) := by decide +kernel
theorem dX10_numberOf_48 : decode cX10_numberOf 48 = .ok (.iconst 1, 1) := by decide +kernel
theorem dX10_numberOf_49 : decode cX10_numberOf 49 = .ok (.goto 4, 3) := by decide +kernel
theorem dX10_numberOf_52 : decode cX10_numberOf 52 = .ok (.iconst 0, 1) := by decide +kernel
theorem dX10_numberOf_53 : decode cX10_numberOf 53 = .ok (.invokestatic 44, 3) := by decide +kernel
theorem dX10_numberOf_56 : decode cX10_numberOf 56 = .ok (.iadd, 1) := by decide +kernel
theorem dX10_numberOf_57 : decode cX10_numberOf 57 = .ok (.istore 4, 2) := by decide +kernel
theorem dX10_numberOf_59 : decode cX10_numberOf 59 = .ok (.iinc 6 1, 3) := by decide +kernel
theorem dX10_numberOf_62 : decode cX10_numberOf 62 = .ok (.goto (-47), 3) := by decide +kernel
theorem dX10_numberOf_65 : decode cX10_numberOf 65 = .ok (.iinc 5 1, 3) := by decide +kernel
theorem dX10_numberOf_68 : decode cX10_numberOf 68 = .ok (.goto (-62), 3) := by decide +kernel
theorem dX10_numberOf_71 : decode cX10_numberOf 71 = .ok (.iload 4, 2) := by decide +kernel
theorem dX10_numberOf_73 : decode cX10_numberOf 73 = .ok (.ireturn, 1) := by decide +kernel
theorem dX10_rowsIn_0 : decode cX10_rowsIn 0 = .ok (.iconst 0, 1) := by decide +kernel
theorem dX10_rowsIn_1 : decode cX10_rowsIn 1 = .ok (.istore 5, 2) := by decide +kernel
theorem dX10_rowsIn_3 : decode cX10_rowsIn 3 = .ok (.iload_n 3, 1) := by decide +kernel
theorem dX10_rowsIn_4 : decode cX10_rowsIn 4 = .ok (.istore 6, 2) := by decide +kernel
theorem dX10_rowsIn_6 : decode cX10_rowsIn 6 = .ok (.iload 6, 2) := by decide +kernel
theorem dX10_rowsIn_8 : decode cX10_rowsIn 8 = .ok (.iload 4, 2) := by decide +kernel
theorem dX10_rowsIn_10 : decode cX10_rowsIn 10 = .ok (.if_icmp .ge 50, 3) := by decide +kernel
theorem dX10_rowsIn_13 : decode cX10_rowsIn 13 = .ok (.iload 5, 2) := by decide +kernel
theorem dX10_rowsIn_15 : decode cX10_rowsIn 15 = .ok (.aload_n 0, 1) := by decide +kernel
theorem dX10_rowsIn_16 : decode cX10_rowsIn 16 = .ok (.iload_n 1, 1) := by decide +kernel
theorem dX10_rowsIn_17 : decode cX10_rowsIn 17 = .ok (.iload_n 2, 1) := by decide +kernel
theorem dX10_rowsIn_18 : decode cX10_rowsIn 18 = .ok (.iload 6, 2) := by decide +kernel
theorem dX10_rowsIn_20 : decode cX10_rowsIn 20 = .ok (.invokestatic 173, 3) := by decide +kernel
theorem dX10_rowsIn_23 : decode cX10_rowsIn 23 = .ok (.ifCond .eq 24, 3) := by decide +kernel
theorem dX10_rowsIn_26 : decode cX10_rowsIn 26 = .ok (.iload 6, 2) := by decide +kernel
theorem dX10_rowsIn_28 : decode cX10_rowsIn 28 = .ok (.iload_n 3, 1) := by decide +kernel
theorem dX10_rowsIn_29 : decode cX10_rowsIn 29 = .ok (.if_icmp .eq 14, 3) := by decide +kernel
theorem dX10_rowsIn_32 : decode cX10_rowsIn 32 = .ok (.aload_n 0, 1) := by decide +kernel
theorem dX10_rowsIn_33 : decode cX10_rowsIn 33 = .ok (.iload_n 1, 1) := by decide +kernel
theorem dX10_rowsIn_34 : decode cX10_rowsIn 34 = .ok (.iload_n 2, 1) := by decide +kernel
theorem dX10_rowsIn_35 : decode cX10_rowsIn 35 = .ok (.iload 6, 2) := by decide +kernel
theorem dX10_rowsIn_37 : decode cX10_rowsIn 37 = .ok (.invokestatic 188, 3) := by decide +kernel
theorem dX10_rowsIn_40 : decode cX10_rowsIn 40 = .ok (.ifCond .eq 7, 3) := by decide +kernel
theorem dX10_rowsIn_43 : decode cX10_rowsIn 43 = .ok (.iconst 1, 1) := by decide +kernel
theorem dX10_rowsIn_44 : decode cX10_rowsIn 44 = .ok (.goto 4, 3) := by decide +kernel
theorem dX10_rowsIn_47 : decode cX10_rowsIn 47 = .ok (.iconst 0, 1) := by decide +kernel
theorem dX10_rowsIn_48 : decode cX10_rowsIn 48 = .ok (.invokestatic 44, 3) := by decide +kernel
theorem dX10_rowsIn_51 : decode cX10_rowsIn 51 = .ok (.iadd, 1) := by decide +kernel
theorem dX10_rowsIn_52 : decode cX10_rowsIn 52 = .ok (.istore 5, 2) := by decide +kernel
theorem dX10_rowsIn_54 : decode cX10_rowsIn 54 = .ok (.iinc 6 1, 3) := by decide +kernel
theorem dX10_rowsIn_57 : decode cX10_rowsIn 57 = .ok (.goto (-51), 3) := by decide +kernel
theorem dX10_rowsIn_60 : decode cX10_rowsIn 60 = .ok (.iload 5, 2) := by decide +kernel
theorem dX10_rowsIn_62 : decode cX10_rowsIn 62 = .ok (.ireturn, 1) := by decide +kernel
theorem dX10_isHeld_0 : decode cX10_isHeld 0 = .ok (.iconst 1, 1) := by decide +kernel
theorem dX10_isHeld_1 : decode cX10_isHeld 1 = .ok (.istore_n 1, 1) := by decide +kernel
theorem dX10_isHeld_2 : decode cX10_isHeld 2 = .ok (.iconst 0, 1) := by decide +kernel
theorem dX10_isHeld_3 : decode cX10_isHeld 3 = .ok (.istore_n 2, 1) := by decide +kernel
theorem dX10_isHeld_4 : decode cX10_isHeld 4 = .ok (.iload_n 2, 1) := by decide +kernel
theorem dX10_isHeld_5 : decode cX10_isHeld 5 = .ok (.bipush 10, 2) := by decide +kernel
theorem dX10_isHeld_7 : decode cX10_isHeld 7 = .ok (.if_icmp .ge 71, 3) := by decide +kernel
theorem dX10_isHeld_10 : decode cX10_isHeld 10 = .ok (.iconst 0, 1) := by decide +kernel
theorem dX10_isHeld_11 : decode cX10_isHeld 11 = .ok (.istore_n 3, 1) := by decide +kernel
theorem dX10_isHeld_12 : decode cX10_isHeld 12 = .ok (.iload_n 3, 1) := by decide +kernel
theorem dX10_isHeld_13 : decode cX10_isHeld 13 = .ok (.bipush 100, 2) := by decide +kernel
theorem dX10_isHeld_15 : decode cX10_isHeld 15 = .ok (.if_icmp .ge 57, 3) := by decide +kernel
theorem dX10_isHeld_18 : decode cX10_isHeld 18 = .ok (.iload_n 1, 1) := by decide +kernel
theorem dX10_isHeld_19 : decode cX10_isHeld 19 = .ok (.ifCond .eq 45, 3) := by decide +kernel
theorem dX10_isHeld_22 : decode cX10_isHeld 22 = .ok (.aload_n 0, 1) := by decide +kernel
theorem dX10_isHeld_23 : decode cX10_isHeld 23 = .ok (.iconst 0, 1) := by decide +kernel
theorem dX10_isHeld_24 : decode cX10_isHeld 24 = .ok (.iload_n 2, 1) := by decide +kernel
theorem dX10_isHeld_25 : decode cX10_isHeld 25 = .ok (.iload_n 3, 1) := by decide +kernel
theorem dX10_isHeld_26 : decode cX10_isHeld 26 = .ok (.invokestatic 173, 3) := by decide +kernel
theorem dX10_isHeld_29 : decode cX10_isHeld 29 = .ok (.ifCond .eq 31, 3) := by decide +kernel
theorem dX10_isHeld_32 : decode cX10_isHeld 32 = .ok (.aload_n 0, 1) := by decide +kernel
theorem dX10_isHeld_33 : decode cX10_isHeld 33 = .ok (.iconst 0, 1) := by decide +kernel
theorem dX10_isHeld_34 : decode cX10_isHeld 34 = .ok (.iload_n 2, 1) := by decide +kernel
theorem dX10_isHeld_35 : decode cX10_isHeld 35 = .ok (.iload_n 3, 1) := by decide +kernel
theorem dX10_isHeld_36 : decode cX10_isHeld 36 = .ok (.invokestatic 181, 3) := by decide +kernel
theorem dX10_isHeld_39 : decode cX10_isHeld 39 = .ok (.bipush 10, 2) := by decide +kernel
theorem dX10_isHeld_41 : decode cX10_isHeld 41 = .ok (.if_icmp .eq 19, 3) := by decide +kernel
theorem dX10_isHeld_44 : decode cX10_isHeld 44 = .ok (.aload_n 0, 1) := by decide +kernel
theorem dX10_isHeld_45 : decode cX10_isHeld 45 = .ok (.iconst 1, 1) := by decide +kernel
theorem dX10_isHeld_46 : decode cX10_isHeld 46 = .ok (.aload_n 0, 1) := by decide +kernel
theorem dX10_isHeld_47 : decode cX10_isHeld 47 = .ok (.iconst 0, 1) := by decide +kernel
theorem dX10_isHeld_48 : decode cX10_isHeld 48 = .ok (.iload_n 2, 1) := by decide +kernel
theorem dX10_isHeld_49 : decode cX10_isHeld 49 = .ok (.iload_n 3, 1) := by decide +kernel
theorem dX10_isHeld_50 : decode cX10_isHeld 50 = .ok (.invokestatic 181, 3) := by decide +kernel
theorem dX10_isHeld_53 : decode cX10_isHeld 53 = .ok (.iload_n 3, 1) := by decide +kernel
theorem dX10_isHeld_54 : decode cX10_isHeld 54 = .ok (.invokestatic 173, 3) := by decide +kernel
theorem dX10_isHeld_57 : decode cX10_isHeld 57 = .ok (.ifCond .eq 7, 3) := by decide +kernel
theorem dX10_isHeld_60 : decode cX10_isHeld 60 = .ok (.iconst 1, 1) := by decide +kernel
theorem dX10_isHeld_61 : decode cX10_isHeld 61 = .ok (.goto 4, 3) := by decide +kernel
theorem dX10_isHeld_64 : decode cX10_isHeld 64 = .ok (.iconst 0, 1) := by decide +kernel
theorem dX10_isHeld_65 : decode cX10_isHeld 65 = .ok (.istore_n 1, 1) := by decide +kernel
theorem dX10_isHeld_66 : decode cX10_isHeld 66 = .ok (.iinc 3 1, 3) := by decide +kernel
theorem dX10_isHeld_69 : decode cX10_isHeld 69 = .ok (.goto (-57), 3) := by decide +kernel
theorem dX10_isHeld_72 : decode cX10_isHeld 72 = .ok (.iinc 2 1, 3) := by decide +kernel
theorem dX10_isHeld_75 : decode cX10_isHeld 75 = .ok (.goto (-71), 3) := by decide +kernel
theorem dX10_isHeld_78 : decode cX10_isHeld 78 = .ok (.iload_n 1, 1) := by decide +kernel
theorem dX10_isHeld_79 : decode cX10_isHeld 79 = .ok (.ireturn, 1) := by decide +kernel
theorem dX10_copiesTo_0 : decode cX10_copiesTo 0 = .ok (.iconst 0, 1) := by decide +kernel
theorem dX10_copiesTo_1 : decode cX10_copiesTo 1 = .ok (.istore_n 2, 1) := by decide +kernel
theorem dX10_copiesTo_2 : decode cX10_copiesTo 2 = .ok (.iload_n 2, 1) := by decide +kernel
theorem dX10_copiesTo_3 : decode cX10_copiesTo 3 = .ok (.sipush 2001, 3) := by decide +kernel
theorem dX10_copiesTo_6 : decode cX10_copiesTo 6 = .ok (.if_icmp .ge 15, 3) := by decide +kernel
theorem dX10_copiesTo_9 : decode cX10_copiesTo 9 = .ok (.aload_n 1, 1) := by decide +kernel
theorem dX10_copiesTo_10 : decode cX10_copiesTo 10 = .ok (.iload_n 2, 1) := by decide +kernel
theorem dX10_copiesTo_11 : decode cX10_copiesTo 11 = .ok (.aload_n 0, 1) := by decide +kernel
theorem dX10_copiesTo_12 : decode cX10_copiesTo 12 = .ok (.iload_n 2, 1) := by decide +kernel
theorem dX10_copiesTo_13 : decode cX10_copiesTo 13 = .ok (.iaload, 1) := by decide +kernel
theorem dX10_copiesTo_14 : decode cX10_copiesTo 14 = .ok (.iastore, 1) := by decide +kernel
theorem dX10_copiesTo_15 : decode cX10_copiesTo 15 = .ok (.iinc 2 1, 3) := by decide +kernel
theorem dX10_copiesTo_18 : decode cX10_copiesTo 18 = .ok (.goto (-16), 3) := by decide +kernel
theorem dX10_copiesTo_21 : decode cX10_copiesTo 21 = .ok (.return_, 1) := by decide +kernel
theorem dX10_settles_0 : decode cX10_settles 0 = .ok (.aload_n 0, 1) := by decide +kernel
theorem dX10_settles_1 : decode cX10_settles 1 = .ok (.getfield 124, 3) := by decide +kernel
theorem dX10_settles_4 : decode cX10_settles 4 = .ok (.iconst 0, 1) := by decide +kernel
theorem dX10_settles_5 : decode cX10_settles 5 = .ok (.invokestatic 197, 3) := by decide +kernel
theorem dX10_settles_8 : decode cX10_settles 8 = .ok (.bipush 20, 2) := by decide +kernel
theorem dX10_settles_10 : decode cX10_settles 10 = .ok (.if_icmp .gt 16, 3) := by decide +kernel
theorem dX10_settles_13 : decode cX10_settles 13 = .ok (.aload_n 0, 1) := by decide +kernel
theorem dX10_settles_14 : decode cX10_settles 14 = .ok (.getfield 124, 3) := by decide +kernel
theorem dX10_settles_17 : decode cX10_settles 17 = .ok (.iconst 1, 1) := by decide +kernel
theorem dX10_settles_18 : decode cX10_settles 18 = .ok (.invokestatic 197, 3) := by decide +kernel
theorem dX10_settles_21 : decode cX10_settles 21 = .ok (.bipush 20, 2) := by decide +kernel
theorem dX10_settles_23 : decode cX10_settles 23 = .ok (.if_icmp .le 6, 3) := by decide +kernel
theorem dX10_settles_26 : decode cX10_settles 26 = .ok (.bipush (-9), 2) := by decide +kernel
theorem dX10_settles_28 : decode cX10_settles 28 = .ok (.ireturn, 1) := by decide +kernel
theorem dX10_settles_29 : decode cX10_settles 29 = .ok (.aload_n 0, 1) := by decide +kernel
theorem dX10_settles_30 : decode cX10_settles 30 = .ok (.getfield 124, 3) := by decide +kernel
theorem dX10_settles_33 : decode cX10_settles 33 = .ok (.aload_n 1, 1) := by decide +kernel
theorem dX10_settles_34 : decode cX10_settles 34 = .ok (.invokestatic 201, 3) := by decide +kernel
theorem dX10_settles_37 : decode cX10_settles 37 = .ok (.iload_n 2, 1) := by decide +kernel
theorem dX10_settles_38 : decode cX10_settles 38 = .ok (.ireturn, 1) := by decide +kernel
theorem dX10_putsBy_0 : decode cX10_putsBy 0 = .ok (.iconst 0, 1) := by decide +kernel
theorem dX10_putsBy_1 : decode cX10_putsBy 1 = .ok (.istore_n 1, 1) := by decide +kernel
theorem dX10_putsBy_2 : decode cX10_putsBy 2 = .ok (.iload_n 1, 1) := by decide +kernel
theorem dX10_putsBy_3 : decode cX10_putsBy 3 = .ok (.sipush 2001, 3) := by decide +kernel
theorem dX10_putsBy_6 : decode cX10_putsBy 6 = .ok (.if_icmp .ge 30, 3) := by decide +kernel
theorem dX10_putsBy_9 : decode cX10_putsBy 9 = .ok (.aload_n 0, 1) := by decide +kernel
theorem dX10_putsBy_10 : decode cX10_putsBy 10 = .ok (.getfield 127, 3) := by decide +kernel
theorem dX10_putsBy_13 : decode cX10_putsBy 13 = .ok (.sipush 2001, 3) := by decide +kernel
theorem dX10_putsBy_16 : decode cX10_putsBy 16 = .ok (.aload_n 0, 1) := by decide +kernel
theorem dX10_putsBy_17 : decode cX10_putsBy 17 = .ok (.getfield 205, 3) := by decide +kernel
theorem dX10_putsBy_20 : decode cX10_putsBy 20 = .ok (.imul, 1) := by decide +kernel
theorem dX10_putsBy_21 : decode cX10_putsBy 21 = .ok (.iload_n 1, 1) := by decide +kernel
theorem dX10_putsBy_22 : decode cX10_putsBy 22 = .ok (.iadd, 1) := by decide +kernel
theorem dX10_putsBy_23 : decode cX10_putsBy 23 = .ok (.aload_n 0, 1) := by decide +kernel
theorem dX10_putsBy_24 : decode cX10_putsBy 24 = .ok (.getfield 118, 3) := by decide +kernel
theorem dX10_putsBy_27 : decode cX10_putsBy 27 = .ok (.iload_n 1, 1) := by decide +kernel
theorem dX10_putsBy_28 : decode cX10_putsBy 28 = .ok (.iaload, 1) := by decide +kernel
theorem dX10_putsBy_29 : decode cX10_putsBy 29 = .ok (.iastore, 1) := by decide +kernel
theorem dX10_putsBy_30 : decode cX10_putsBy 30 = .ok (.iinc 1 1, 3) := by decide +kernel
theorem dX10_putsBy_33 : decode cX10_putsBy 33 = .ok (.goto (-31), 3) := by decide +kernel
theorem dX10_putsBy_36 : decode cX10_putsBy 36 = .ok (.return_, 1) := by decide +kernel
theorem dX10_keeps_0 : decode cX10_keeps 0 = .ok (.aload_n 0, 1) := by decide +kernel
theorem dX10_keeps_1 : decode cX10_keeps 1 = .ok (.dup, 1) := by decide +kernel
theorem dX10_keeps_2 : decode cX10_keeps 2 = .ok (.getfield 205, 3) := by decide +kernel
theorem dX10_keeps_5 : decode cX10_keeps 5 = .ok (.iconst 1, 1) := by decide +kernel
theorem dX10_keeps_6 : decode cX10_keeps 6 = .ok (.iadd, 1) := by decide +kernel
theorem dX10_keeps_7 : decode cX10_keeps 7 = .ok (.putfield 205, 3) := by decide +kernel
theorem dX10_keeps_10 : decode cX10_keeps 10 = .ok (.aload_n 0, 1) := by decide +kernel
theorem dX10_keeps_11 : decode cX10_keeps 11 = .ok (.getfield 205, 3) := by decide +kernel
theorem dX10_keeps_14 : decode cX10_keeps 14 = .ok (.bipush 10, 2) := by decide +kernel
theorem dX10_keeps_16 : decode cX10_keeps 16 = .ok (.if_icmp .le 44, 3) := by decide +kernel
