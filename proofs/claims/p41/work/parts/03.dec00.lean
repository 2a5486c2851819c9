theorem dX0_init_0 : decode cX0_init 0 = .ok (.aload_n 0, 1) := by decide +kernel
theorem dX0_init_1 : decode cX0_init 1 = .ok (.invokespecial 3, 3) := by decide +kernel
theorem dX0_init_4 : decode cX0_init 4 = .ok (.aload_n 0, 1) := by decide +kernel
theorem dX0_init_5 : decode cX0_init 5 = .ok (.bipush 40, 2) := by decide +kernel
theorem dX0_init_7 : decode cX0_init 7 = .ok (.newarray .char, 2) := by decide +kernel
theorem dX0_init_9 : decode cX0_init 9 = .ok (.putfield 11, 3) := by decide +kernel
theorem dX0_init_12 : decode cX0_init 12 = .ok (.aload_n 0, 1) := by decide +kernel
theorem dX0_init_13 : decode cX0_init 13 = .ok (.bipush 7, 2) := by decide +kernel
theorem dX0_init_15 : decode cX0_init 15 = .ok (.newarray .int, 2) := by decide +kernel
theorem dX0_init_17 : decode cX0_init 17 = .ok (.putfield 15, 3) := by decide +kernel
theorem dX0_init_20 : decode cX0_init 20 = .ok (.return_, 1) := by decide +kernel
theorem dX0_faultOf_0 : decode cX0_faultOf 0 = .ok (.aload_n 0, 1) := by decide +kernel
theorem dX0_faultOf_1 : decode cX0_faultOf 1 = .ok (.bipush 40, 2) := by decide +kernel
theorem dX0_faultOf_3 : decode cX0_faultOf 3 = .ok (.aload_n 1, 1) := by decide +kernel
theorem dX0_faultOf_4 : decode cX0_faultOf 4 = .ok (.getfield 19, 3) := by decide +kernel
theorem dX0_faultOf_7 : decode cX0_faultOf 7 = .ok (.invokestatic 25, 3) := by decide +kernel
theorem dX0_faultOf_10 : decode cX0_faultOf 10 = .ok (.putfield 31, 3) := by decide +kernel
theorem dX0_faultOf_13 : decode cX0_faultOf 13 = .ok (.iconst 0, 1) := by decide +kernel
theorem dX0_faultOf_14 : decode cX0_faultOf 14 = .ok (.istore_n 2, 1) := by decide +kernel
theorem dX0_faultOf_15 : decode cX0_faultOf 15 = .ok (.iload_n 2, 1) := by decide +kernel
theorem dX0_faultOf_16 : decode cX0_faultOf 16 = .ok (.aload_n 0, 1) := by decide +kernel
theorem dX0_faultOf_17 : decode cX0_faultOf 17 = .ok (.getfield 31, 3) := by decide +kernel
theorem dX0_faultOf_20 : decode cX0_faultOf 20 = .ok (.if_icmp .ge 21, 3) := by decide +kernel
theorem dX0_faultOf_23 : decode cX0_faultOf 23 = .ok (.aload_n 0, 1) := by decide +kernel
theorem dX0_faultOf_24 : decode cX0_faultOf 24 = .ok (.getfield 11, 3) := by decide +kernel
theorem dX0_faultOf_27 : decode cX0_faultOf 27 = .ok (.iload_n 2, 1) := by decide +kernel
theorem dX0_faultOf_28 : decode cX0_faultOf 28 = .ok (.aload_n 1, 1) := by decide +kernel
theorem dX0_faultOf_29 : decode cX0_faultOf 29 = .ok (.iload_n 2, 1) := by decide +kernel
theorem dX0_faultOf_30 : decode cX0_faultOf 30 = .ok (.invokevirtual 32, 3) := by decide +kernel
theorem dX0_faultOf_33 : decode cX0_faultOf 33 = .ok (.i2c, 1) := by decide +kernel
theorem dX0_faultOf_34 : decode cX0_faultOf 34 = .ok (.castore, 1) := by decide +kernel
theorem dX0_faultOf_35 : decode cX0_faultOf 35 = .ok (.iinc 2 1, 3) := by decide +kernel
theorem dX0_faultOf_38 : decode cX0_faultOf 38 = .ok (.goto (-23), 3) := by decide +kernel
theorem dX0_faultOf_41 : decode cX0_faultOf 41 = .ok (.aload_n 0, 1) := by decide +kernel
theorem dX0_faultOf_42 : decode cX0_faultOf 42 = .ok (.invokevirtual 36, 3) := by decide +kernel
theorem dX0_faultOf_45 : decode cX0_faultOf 45 = .ok (.aload_n 0, 1) := by decide +kernel
theorem dX0_faultOf_46 : decode cX0_faultOf 46 = .ok (.iconst 0, 1) := by decide +kernel
theorem dX0_faultOf_47 : decode cX0_faultOf 47 = .ok (.invokevirtual 39, 3) := by decide +kernel
theorem dX0_faultOf_50 : decode cX0_faultOf 50 = .ok (.pop, 1) := by decide +kernel
theorem dX0_faultOf_51 : decode cX0_faultOf 51 = .ok (.aload_n 0, 1) := by decide +kernel
theorem dX0_faultOf_52 : decode cX0_faultOf 52 = .ok (.getfield 42, 3) := by decide +kernel
theorem dX0_faultOf_55 : decode cX0_faultOf 55 = .ok (.iconst (-1), 1) := by decide +kernel
theorem dX0_faultOf_56 : decode cX0_faultOf 56 = .ok (.if_icmp .ne 22, 3) := by decide +kernel
theorem dX0_faultOf_59 : decode cX0_faultOf 59 = .ok (.aload_n 0, 1) := by decide +kernel
theorem dX0_faultOf_60 : decode cX0_faultOf 60 = .ok (.getfield 45, 3) := by decide +kernel
theorem dX0_faultOf_63 : decode cX0_faultOf 63 = .ok (.aload_n 1, 1) := by decide +kernel
theorem dX0_faultOf_64 : decode cX0_faultOf 64 = .ok (.getfield 19, 3) := by decide +kernel
theorem dX0_faultOf_67 : decode cX0_faultOf 67 = .ok (.if_icmp .ge 11, 3) := by decide +kernel
theorem dX0_faultOf_70 : decode cX0_faultOf 70 = .ok (.aload_n 0, 1) := by decide +kernel
theorem dX0_faultOf_71 : decode cX0_faultOf 71 = .ok (.aload_n 0, 1) := by decide +kernel
theorem dX0_faultOf_72 : decode cX0_faultOf 72 = .ok (.getfield 45, 3) := by decide +kernel
theorem dX0_faultOf_75 : decode cX0_faultOf 75 = .ok (.putfield 42, 3) := by decide +kernel
theorem dX0_faultOf_78 : decode cX0_faultOf 78 = .ok (.aload_n 0, 1) := by decide +kernel
theorem dX0_faultOf_79 : decode cX0_faultOf 79 = .ok (.getfield 42, 3) := by decide +kernel
theorem dX0_faultOf_82 : decode cX0_faultOf 82 = .ok (.ireturn, 1) := by decide +kernel
theorem dX0_valueOf_0 : decode cX0_valueOf 0 = .ok (.iconst 0, 1) := by decide +kernel
theorem dX0_valueOf_1 : decode cX0_valueOf 1 = .ok (.istore_n 3, 1) := by decide +kernel
theorem dX0_valueOf_2 : decode cX0_valueOf 2 = .ok (.iload_n 3, 1) := by decide +kernel
theorem dX0_valueOf_3 : decode cX0_valueOf 3 = .ok (.iconst 5, 1) := by decide +kernel
theorem dX0_valueOf_4 : decode cX0_valueOf 4 = .ok (.if_icmp .ge 21, 3) := by decide +kernel
theorem dX0_valueOf_7 : decode cX0_valueOf 7 = .ok (.aload_n 0, 1) := by decide +kernel
theorem dX0_valueOf_8 : decode cX0_valueOf 8 = .ok (.getfield 15, 3) := by decide +kernel
theorem dX0_valueOf_11 : decode cX0_valueOf 11 = .ok (.iload_n 3, 1) := by decide +kernel
theorem dX0_valueOf_12 : decode cX0_valueOf 12 = .ok (.aload_n 1, 1) := by decide +kernel
theorem dX0_valueOf_13 : decode cX0_valueOf 13 = .ok (.iload_n 2, 1) := by decide +kernel
theorem dX0_valueOf_14 : decode cX0_valueOf 14 = .ok (.iload_n 3, 1) := by decide +kernel
theorem dX0_valueOf_15 : decode cX0_valueOf 15 = .ok (.invokevirtual 48, 3) := by decide +kernel
theorem dX0_valueOf_18 : decode cX0_valueOf 18 = .ok (.iastore, 1) := by decide +kernel
theorem dX0_valueOf_19 : decode cX0_valueOf 19 = .ok (.iinc 3 1, 3) := by decide +kernel
theorem dX0_valueOf_22 : decode cX0_valueOf 22 = .ok (.goto (-20), 3) := by decide +kernel
theorem dX0_valueOf_25 : decode cX0_valueOf 25 = .ok (.aload_n 0, 1) := by decide +kernel
theorem dX0_valueOf_26 : decode cX0_valueOf 26 = .ok (.getfield 15, 3) := by decide +kernel
theorem dX0_valueOf_29 : decode cX0_valueOf 29 = .ok (.iconst 5, 1) := by decide +kernel
theorem dX0_valueOf_30 : decode cX0_valueOf 30 = .ok (.aload_n 1, 1) := by decide +kernel
theorem dX0_valueOf_31 : decode cX0_valueOf 31 = .ok (.iload_n 2, 1) := by decide +kernel
theorem dX0_valueOf_32 : decode cX0_valueOf 32 = .ok (.invokevirtual 53, 3) := by decide +kernel
theorem dX0_valueOf_35 : decode cX0_valueOf 35 = .ok (.iastore, 1) := by decide +kernel
theorem dX0_valueOf_36 : decode cX0_valueOf 36 = .ok (.aload_n 0, 1) := by decide +kernel
theorem dX0_valueOf_37 : decode cX0_valueOf 37 = .ok (.getfield 15, 3) := by decide +kernel
theorem dX0_valueOf_40 : decode cX0_valueOf 40 = .ok (.bipush 6, 2) := by decide +kernel
theorem dX0_valueOf_42 : decode cX0_valueOf 42 = .ok (.iload_n 2, 1) := by decide +kernel
theorem dX0_valueOf_43 : decode cX0_valueOf 43 = .ok (.iastore, 1) := by decide +kernel
theorem dX0_valueOf_44 : decode cX0_valueOf 44 = .ok (.aload_n 0, 1) := by decide +kernel
theorem dX0_valueOf_45 : decode cX0_valueOf 45 = .ok (.invokevirtual 36, 3) := by decide +kernel
theorem dX0_valueOf_48 : decode cX0_valueOf 48 = .ok (.aload_n 0, 1) := by decide +kernel
theorem dX0_valueOf_49 : decode cX0_valueOf 49 = .ok (.iconst 0, 1) := by decide +kernel
theorem dX0_valueOf_50 : decode cX0_valueOf 50 = .ok (.invokevirtual 39, 3) := by decide +kernel
theorem dX0_valueOf_53 : decode cX0_valueOf 53 = .ok (.ireturn, 1) := by decide +kernel
theorem dX0_rewind_0 : decode cX0_rewind 0 = .ok (.aload_n 0, 1) := by decide +kernel
theorem dX0_rewind_1 : decode cX0_rewind 1 = .ok (.iconst 0, 1) := by decide +kernel
theorem dX0_rewind_2 : decode cX0_rewind 2 = .ok (.putfield 45, 3) := by decide +kernel
theorem dX0_rewind_5 : decode cX0_rewind 5 = .ok (.aload_n 0, 1) := by decide +kernel
theorem dX0_rewind_6 : decode cX0_rewind 6 = .ok (.iconst (-1), 1) := by decide +kernel
theorem dX0_rewind_7 : decode cX0_rewind 7 = .ok (.putfield 42, 3) := by decide +kernel
theorem dX0_rewind_10 : decode cX0_rewind 10 = .ok (.return_, 1) := by decide +kernel
theorem dX0_peek_0 : decode cX0_peek 0 = .ok (.aload_n 0, 1) := by decide +kernel
theorem dX0_peek_1 : decode cX0_peek 1 = .ok (.getfield 42, 3) := by decide +kernel
theorem dX0_peek_4 : decode cX0_peek 4 = .ok (.iconst (-1), 1) := by decide +kernel
theorem dX0_peek_5 : decode cX0_peek 5 = .ok (.if_icmp .ne 35, 3) := by decide +kernel
theorem dX0_peek_8 : decode cX0_peek 8 = .ok (.aload_n 0, 1) := by decide +kernel
theorem dX0_peek_9 : decode cX0_peek 9 = .ok (.getfield 45, 3) := by decide +kernel
theorem dX0_peek_12 : decode cX0_peek 12 = .ok (.aload_n 0, 1) := by decide +kernel
theorem dX0_peek_13 : decode cX0_peek 13 = .ok (.getfield 31, 3) := by decide +kernel
theorem dX0_peek_16 : decode cX0_peek 16 = .ok (.if_icmp .ge 24, 3) := by decide +kernel
theorem dX0_peek_19 : decode cX0_peek 19 = .ok (.aload_n 0, 1) := by decide +kernel
theorem dX0_peek_20 : decode cX0_peek 20 = .ok (.getfield 45, 3) := by decide +kernel
theorem dX0_peek_23 : decode cX0_peek 23 = .ok (.bipush 40, 2) := by decide +kernel
theorem dX0_peek_25 : decode cX0_peek 25 = .ok (.if_icmp .ge 15, 3) := by decide +kernel
theorem dX0_peek_28 : decode cX0_peek 28 = .ok (.aload_n 0, 1) := by decide +kernel
theorem dX0_peek_29 : decode cX0_peek 29 = .ok (.getfield 11, 3) := by decide +kernel
theorem dX0_peek_32 : decode cX0_peek 32 = .ok (.aload_n 0, 1) := by decide +kernel
theorem dX0_peek_33 : decode cX0_peek 33 = .ok (.getfield 45, 3) := by decide +kernel
theorem dX0_peek_36 : decode cX0_peek 36 = .ok (.caload, 1) := by decide +kernel
theorem dX0_peek_37 : decode cX0_peek 37 = .ok (.goto 4, 3) := by decide +kernel
theorem dX0_peek_40 : decode cX0_peek 40 = .ok (.iconst (-1), 1) := by decide +kernel
theorem dX0_peek_41 : decode cX0_peek 41 = .ok (.ireturn, 1) := by decide +kernel
theorem dX0_fail_0 : decode cX0_fail 0 = .ok (.aload_n 0, 1) := by decide +kernel
theorem dX0_fail_1 : decode cX0_fail 1 = .ok (.getfield 42, 3) := by decide +kernel
theorem dX0_fail_4 : decode cX0_fail 4 = .ok (.iconst (-1), 1) := by decide +kernel
theorem dX0_fail_5 : decode cX0_fail 5 = .ok (.if_icmp .ne 11, 3) := by decide +kernel
theorem dX0_fail_8 : decode cX0_fail 8 = .ok (.aload_n 0, 1) := by decide +kernel
theorem dX0_fail_9 : decode cX0_fail 9 = .ok (.aload_n 0, 1) := by decide +kernel
theorem dX0_fail_10 : decode cX0_fail 10 = .ok (.getfield 45, 3) := by decide +kernel
theorem dX0_fail_13 : decode cX0_fail 13 = .ok (.putfield 42, 3) := by decide +kernel
theorem dX0_fail_16 : decode cX0_fail 16 = .ok (.return_, 1) := by decide +kernel
theorem dX0_comparison_0 : decode cX0_comparison 0 = .ok (.aload_n 0, 1) := by decide +kernel
theorem dX0_comparison_1 : decode cX0_comparison 1 = .ok (.iload_n 1, 1) := by decide +kernel
theorem dX0_comparison_2 : decode cX0_comparison 2 = .ok (.invokevirtual 56, 3) := by decide +kernel
theorem dX0_comparison_5 : decode cX0_comparison 5 = .ok (.istore_n 2, 1) := by decide +kernel
theorem dX0_comparison_6 : decode cX0_comparison 6 = .ok (.aload_n 0, 1) := by decide +kernel
theorem dX0_comparison_7 : decode cX0_comparison 7 = .ok (.invokevirtual 59, 3) := by decide +kernel
theorem dX0_comparison_10 : decode cX0_comparison 10 = .ok (.istore_n 3, 1) := by decide +kernel
theorem dX0_comparison_11 : decode cX0_comparison 11 = .ok (.iload_n 3, 1) := by decide +kernel
theorem dX0_comparison_12 : decode cX0_comparison 12 = .ok (.bipush 60, 2) := by decide +kernel
theorem dX0_comparison_14 : decode cX0_comparison 14 = .ok (.if_icmp .eq 17, 3) := by decide +kernel
theorem dX0_comparison_17 : decode cX0_comparison 17 = .ok (.iload_n 3, 1) := by decide +kernel
theorem dX0_comparison_18 : decode cX0_comparison 18 = .ok (.bipush 62, 2) := by decide +kernel
theorem dX0_comparison_20 : decode cX0_comparison 20 = .ok (.if_icmp .eq 11, 3) := by decide +kernel
theorem dX0_comparison_23 : decode cX0_comparison 23 = .ok (.iload_n 3, 1) := by decide +kernel
theorem dX0_comparison_24 : decode cX0_comparison 24 = .ok (.bipush 61, 2) := by decide +kernel
theorem dX0_comparison_26 : decode cX0_comparison 26 = .ok (.if_icmp .eq 5, 3) := by decide +kernel
theorem dX0_comparison_29 : decode cX0_comparison 29 = .ok (.iload_n 2, 1) := by decide +kernel
theorem dX0_comparison_30 : decode cX0_comparison 30 = .ok (.ireturn, 1) := by decide +kernel
theorem dX0_comparison_31 : decode cX0_comparison 31 = .ok (.aload_n 0, 1) := by decide +kernel
theorem dX0_comparison_32 : decode cX0_comparison 32 = .ok (.dup, 1) := by decide +kernel
theorem dX0_comparison_33 : decode cX0_comparison 33 = .ok (.getfield 45, 3) := by decide +kernel
theorem dX0_comparison_36 : decode cX0_comparison 36 = .ok (.iconst 1, 1) := by decide +kernel
theorem dX0_comparison_37 : decode cX0_comparison 37 = .ok (.iadd, 1) := by decide +kernel
theorem dX0_comparison_38 : decode cX0_comparison 38 = .ok (.putfield 45, 3) := by decide +kernel
theorem dX0_comparison_41 : decode cX0_comparison 41 = .ok (.aload_n 0, 1) := by decide +kernel
theorem dX0_comparison_42 : decode cX0_comparison 42 = .ok (.iload_n 1, 1) := by decide +kernel
theorem dX0_comparison_43 : decode cX0_comparison 43 = .ok (.invokevirtual 56, 3) := by decide +kernel
theorem dX0_comparison_46 : decode cX0_comparison 46 = .ok (.istore 4, 2) := by decide +kernel
theorem dX0_comparison_48 : decode cX0_comparison 48 = .ok (.iload_n 3, 1) := by decide +kernel
theorem dX0_comparison_49 : decode cX0_comparison 49 = .ok (.bipush 60, 2) := by decide +kernel
theorem dX0_comparison_51 : decode cX0_comparison 51 = .ok (.if_icmp .ne 17, 3) := by decide +kernel
theorem dX0_comparison_54 : decode cX0_comparison 54 = .ok (.iload_n 2, 1) := by decide +kernel
theorem dX0_comparison_55 : decode cX0_comparison 55 = .ok (.iload 4, 2) := by decide +kernel
theorem dX0_comparison_57 : decode cX0_comparison 57 = .ok (.if_icmp .ge 7, 3) := by decide +kernel
theorem dX0_comparison_60 : decode cX0_comparison 60 = .ok (.iconst 1, 1) := by decide +kernel
theorem dX0_comparison_61 : decode cX0_comparison 61 = .ok (.goto 38, 3) := by decide +kernel
theorem dX0_comparison_64 : decode cX0_comparison 64 = .ok (.iconst 0, 1) := by decide +kernel
theorem dX0_comparison_65 : decode cX0_comparison 65 = .ok (.goto 34, 3) := by decide +kernel
theorem dX0_comparison_68 : decode cX0_comparison 68 = .ok (.iload_n 3, 1) := by decide +kernel
theorem dX0_comparison_69 : decode cX0_comparison 69 = .ok (.bipush 62, 2) := by decide +kernel
theorem dX0_comparison_71 : decode cX0_comparison 71 = .ok (.if_icmp .ne 17, 3) := by decide +kernel
theorem dX0_comparison_74 : decode cX0_comparison 74 = .ok (.iload_n 2, 1) := by decide +kernel
theorem dX0_comparison_75 : decode cX0_comparison 75 = .ok (.iload 4, 2) := by decide +kernel
theorem dX0_comparison_77 : decode cX0_comparison 77 = .ok (.if_icmp .le 7, 3) := by decide +kernel
theorem dX0_comparison_80 : decode cX0_comparison 80 = .ok (.iconst 1, 1) := by decide +kernel
theorem dX0_comparison_81 : decode cX0_comparison 81 = .ok (.goto 18, 3) := by decide +kernel
theorem dX0_comparison_84 : decode cX0_comparison 84 = .ok (.iconst 0, 1) := by decide +kernel
theorem dX0_comparison_85 : decode cX0_comparison 85 = .ok (.goto 14, 3) := by decide +kernel
theorem dX0_comparison_88 : decode cX0_comparison 88 = .ok (.iload_n 2, 1) := by decide +kernel
theorem dX0_comparison_89 : decode cX0_comparison 89 = .ok (.iload 4, 2) := by decide +kernel
theorem dX0_comparison_91 : decode cX0_comparison 91 = .ok (.if_icmp .ne 7, 3) := by decide +kernel
theorem dX0_comparison_94 : decode cX0_comparison 94 = .ok (.iconst 1, 1) := by decide +kernel
theorem dX0_comparison_95 : decode cX0_comparison 95 = .ok (.goto 4, 3) := by decide +kernel
theorem dX0_comparison_98 : decode cX0_comparison 98 = .ok (.iconst 0, 1) := by decide +kernel
theorem dX0_comparison_99 : decode cX0_comparison 99 = .ok (.istore 5, 2) := by decide +kernel
theorem dX0_comparison_101 : decode cX0_comparison 101 = .ok (.iload 5, 2) := by decide +kernel
theorem dX0_comparison_103 : decode cX0_comparison 103 = .ok (.ifCond .eq 7, 3) := by decide +kernel
theorem dX0_comparison_106 : decode cX0_comparison 106 = .ok (.iconst 1, 1) := by decide +kernel
theorem dX0_comparison_107 : decode cX0_comparison 107 = .ok (.goto 4, 3) := by decide +kernel
theorem dX0_comparison_110 : decode cX0_comparison 110 = .ok (.iconst 0, 1) := by decide +kernel
theorem dX0_comparison_111 : decode cX0_comparison 111 = .ok (.ireturn, 1) := by decide +kernel
theorem dX0_sum_0 : decode cX0_sum 0 = .ok (.aload_n 0, 1) := by decide +kernel
theorem dX0_sum_1 : decode cX0_sum 1 = .ok (.iload_n 1, 1) := by decide +kernel
theorem dX0_sum_2 : decode cX0_sum 2 = .ok (.invokevirtual 63, 3) := by decide +kernel
theorem dX0_sum_5 : decode cX0_sum 5 = .ok (.istore_n 2, 1) := by decide +kernel
theorem dX0_sum_6 : decode cX0_sum 6 = .ok (.iconst 0, 1) := by decide +kernel
theorem dX0_sum_7 : decode cX0_sum 7 = .ok (.istore_n 3, 1) := by decide +kernel
theorem dX0_sum_8 : decode cX0_sum 8 = .ok (.iload_n 3, 1) := by decide +kernel
theorem dX0_sum_9 : decode cX0_sum 9 = .ok (.bipush 40, 2) := by decide +kernel
theorem dX0_sum_11 : decode cX0_sum 11 = .ok (.if_icmp .ge 77, 3) := by decide +kernel
theorem dX0_sum_14 : decode cX0_sum 14 = .ok (.aload_n 0, 1) := by decide +kernel
theorem dX0_sum_15 : decode cX0_sum 15 = .ok (.invokevirtual 59, 3) := by decide +kernel
theorem dX0_sum_18 : decode cX0_sum 18 = .ok (.bipush 43, 2) := by decide +kernel
theorem dX0_sum_20 : decode cX0_sum 20 = .ok (.if_icmp .eq 12, 3) := by decide +kernel
theorem dX0_sum_23 : decode cX0_sum 23 = .ok (.aload_n 0, 1) := by decide +kernel
theorem dX0_sum_24 : decode cX0_sum 24 = .ok (.invokevirtual 59, 3) := by decide +kernel
theorem dX0_sum_27 : decode cX0_sum 27 = .ok (.bipush 45, 2) := by decide +kernel
theorem dX0_sum_29 : decode cX0_sum 29 = .ok (.if_icmp .ne 59, 3) := by decide +kernel
theorem dX0_sum_32 : decode cX0_sum 32 = .ok (.aload_n 0, 1) := by decide +kernel
theorem dX0_sum_33 : decode cX0_sum 33 = .ok (.invokevirtual 59, 3) := by decide +kernel
theorem dX0_sum_36 : decode cX0_sum 36 = .ok (.bipush 43, 2) := by decide +kernel
theorem dX0_sum_38 : decode cX0_sum 38 = .ok (.if_icmp .ne 7, 3) := by decide +kernel
theorem dX0_sum_41 : decode cX0_sum 41 = .ok (.iconst 1, 1) := by decide +kernel
theorem dX0_sum_42 : decode cX0_sum 42 = .ok (.goto 4, 3) := by decide +kernel
theorem dX0_sum_45 : decode cX0_sum 45 = .ok (.iconst 0, 1) := by decide +kernel
theorem dX0_sum_46 : decode cX0_sum 46 = .ok (.istore 4, 2) := by decide +kernel
theorem dX0_sum_48 : decode cX0_sum 48 = .ok (.aload_n 0, 1) := by decide +kernel
theorem dX0_sum_49 : decode cX0_sum 49 = .ok (.dup, 1) := by decide +kernel
theorem dX0_sum_50 : decode cX0_sum 50 = .ok (.getfield 45, 3) := by decide +kernel
theorem dX0_sum_53 : decode cX0_sum 53 = .ok (.iconst 1, 1) := by decide +kernel
theorem dX0_sum_54 : decode cX0_sum 54 = .ok (.iadd, 1) := by decide +kernel
theorem dX0_sum_55 : decode cX0_sum 55 = .ok (.putfield 45, 3) := by decide +kernel
theorem dX0_sum_58 : decode cX0_sum 58 = .ok (.aload_n 0, 1) := by decide +kernel
theorem dX0_sum_59 : decode cX0_sum 59 = .ok (.iload_n 1, 1) := by decide +kernel
theorem dX0_sum_60 : decode cX0_sum 60 = .ok (.invokevirtual 63, 3) := by decide +kernel
theorem dX0_sum_63 : decode cX0_sum 63 = .ok (.istore 5, 2) := by decide +kernel
theorem dX0_sum_65 : decode cX0_sum 65 = .ok (.iload 4, 2) := by decide +kernel
theorem dX0_sum_67 : decode cX0_sum 67 = .ok (.ifCond .eq 10, 3) := by decide +kernel
theorem dX0_sum_70 : decode cX0_sum 70 = .ok (.iload_n 2, 1) := by decide +kernel
theorem dX0_sum_71 : decode cX0_sum 71 = .ok (.iload 5, 2) := by decide +kernel
theorem dX0_sum_73 : decode cX0_sum 73 = .ok (.iadd, 1) := by decide +kernel
theorem dX0_sum_74 : decode cX0_sum 74 = .ok (.goto 7, 3) := by decide +kernel
theorem dX0_sum_77 : decode cX0_sum 77 = .ok (.iload_n 2, 1) := by decide +kernel
theorem dX0_sum_78 : decode cX0_sum 78 = .ok (.iload 5, 2) := by decide +kernel
theorem dX0_sum_80 : decode cX0_sum 80 = .ok (.isub, 1) := by decide +kernel
theorem dX0_sum_81 : decode cX0_sum 81 = .ok (.istore_n 2, 1) := by decide +kernel
theorem dX0_sum_82 : decode cX0_sum 82 = .ok (.iinc 3 1, 3) := by decide +kernel
theorem dX0_sum_85 : decode cX0_sum 85 = .ok (.goto (-77), 3) := by decide +kernel
theorem dX0_sum_88 : decode cX0_sum 88 = .ok (.iload_n 2, 1) := by decide +kernel
theorem dX0_sum_89 : decode cX0_sum 89 = .ok (.ireturn, 1) := by decide +kernel
theorem dX0_product_0 : decode cX0_product 0 = .ok (.aload_n 0, 1) := by decide +kernel
theorem dX0_product_1 : decode cX0_product 1 = .ok (.iload_n 1, 1) := by decide +kernel
theorem dX0_product_2 : decode cX0_product 2 = .ok (.invokevirtual 66, 3) := by decide +kernel
theorem dX0_product_5 : decode cX0_product 5 = .ok (.istore_n 2, 1) := by decide +kernel
theorem dX0_product_6 : decode cX0_product 6 = .ok (.iconst 0, 1) := by decide +kernel
theorem dX0_product_7 : decode cX0_product 7 = .ok (.istore_n 3, 1) := by decide +kernel
theorem dX0_product_8 : decode cX0_product 8 = .ok (.iload_n 3, 1) := by decide +kernel
theorem dX0_product_9 : decode cX0_product 9 = .ok (.bipush 40, 2) := by decide +kernel
theorem dX0_product_11 : decode cX0_product 11 = .ok (.if_icmp .ge 86, 3) := by decide +kernel
theorem dX0_product_14 : decode cX0_product 14 = .ok (.aload_n 0, 1) := by decide +kernel
theorem dX0_product_15 : decode cX0_product 15 = .ok (.invokevirtual 59, 3) := by decide +kernel
theorem dX0_product_18 : decode cX0_product 18 = .ok (.bipush 42, 2) := by decide +kernel
theorem dX0_product_20 : decode cX0_product 20 = .ok (.if_icmp .eq 12, 3) := by decide +kernel
theorem dX0_product_23 : decode cX0_product 23 = .ok (.aload_n 0, 1) := by decide +kernel
theorem dX0_product_24 : decode cX0_product 24 = .ok (.invokevirtual 59, 3) := by decide +kernel
theorem dX0_product_27 : decode cX0_product 27 = .ok (.bipush 47, 2) := by decide +kernel
theorem dX0_product_29 : decode cX0_product 29 = .ok (.if_icmp .ne 68, 3) := by decide +kernel
theorem dX0_product_32 : decode cX0_product 32 = .ok (.aload_n 0, 1) := by decide +kernel
theorem dX0_product_33 : decode cX0_product 33 = .ok (.invokevirtual 59, 3) := by decide +kernel
theorem dX0_product_36 : decode cX0_product 36 = .ok (.bipush 42, 2) := by decide +kernel
theorem dX0_product_38 : decode cX0_product 38 = .ok (.if_icmp .ne 7, 3) := by decide +kernel
theorem dX0_product_41 : decode cX0_product 41 = .ok (.iconst 1, 1) := by decide +kernel
theorem dX0_product_42 : decode cX0_product 42 = .ok (.goto 4, 3) := by decide +kernel
theorem dX0_product_45 : decode cX0_product 45 = .ok (.iconst 0, 1) := by decide +kernel
theorem dX0_product_46 : decode cX0_product 46 = .ok (.istore 4, 2) := by decide +kernel
theorem dX0_product_48 : decode cX0_product 48 = .ok (.aload_n 0, 1) := by decide +kernel
theorem dX0_product_49 : decode cX0_product 49 = .ok (.dup, 1) := by decide +kernel
theorem dX0_product_50 : decode cX0_product 50 = .ok (.getfield 45, 3) := by decide +kernel
theorem dX0_product_53 : decode cX0_product 53 = .ok (.iconst 1, 1) := by decide +kernel
theorem dX0_product_54 : decode cX0_product 54 = .ok (.iadd, 1) := by decide +kernel
theorem dX0_product_55 : decode cX0_product 55 = .ok (.putfield 45, 3) := by decide +kernel
theorem dX0_product_58 : decode cX0_product 58 = .ok (.aload_n 0, 1) := by decide +kernel
theorem dX0_product_59 : decode cX0_product 59 = .ok (.iload_n 1, 1) := by decide +kernel
theorem dX0_product_60 : decode cX0_product 60 = .ok (.invokevirtual 66, 3) := by decide +kernel
theorem dX0_product_63 : decode cX0_product 63 = .ok (.istore 5, 2) := by decide +kernel
theorem dX0_product_65 : decode cX0_product 65 = .ok (.iload 4, 2) := by decide +kernel
theorem dX0_product_67 : decode cX0_product 67 = .ok (.ifCond .eq 10, 3) := by decide +kernel
theorem dX0_product_70 : decode cX0_product 70 = .ok (.iload_n 2, 1) := by decide +kernel
theorem dX0_product_71 : decode cX0_product 71 = .ok (.iload 5, 2) := by decide +kernel
theorem dX0_product_73 : decode cX0_product 73 = .ok (.imul, 1) := by decide +kernel
theorem dX0_product_74 : decode cX0_product 74 = .ok (.goto 16, 3) := by decide +kernel
theorem dX0_product_77 : decode cX0_product 77 = .ok (.iload 5, 2) := by decide +kernel
theorem dX0_product_79 : decode cX0_product 79 = .ok (.ifCond .ne 7, 3) := by decide +kernel
theorem dX0_product_82 : decode cX0_product 82 = .ok (.iconst 0, 1) := by decide +kernel
theorem dX0_product_83 : decode cX0_product 83 = .ok (.goto 7, 3) := by decide +kernel
theorem dX0_product_86 : decode cX0_product 86 = .ok (.iload_n 2, 1) := by decide +kernel
theorem dX0_product_87 : decode cX0_product 87 = .ok (.iload 5, 2) := by decide +kernel
theorem dX0_product_89 : decode cX0_product 89 = .ok (.idiv, 1) := by decide +kernel
theorem dX0_product_90 : decode cX0_product 90 = .ok (.istore_n 2, 1) := by decide +kernel
theorem dX0_product_91 : decode cX0_product 91 = .ok (.iinc 3 1, 3) := by decide +kernel
theorem dX0_product_94 : decode cX0_product 94 = .ok (.goto (-86), 3) := by decide +kernel
theorem dX0_product_97 : decode cX0_product 97 = .ok (.iload_n 2, 1) := by decide +kernel
theorem dX0_product_98 : decode cX0_product 98 = .ok (.ireturn, 1) := by decide +kernel
theorem dX0_thing_0 : decode cX0_thing 0 = .ok (.iconst 0, 1) := by decide +kernel
theorem dX0_thing_1 : decode cX0_thing 1 = .ok (.istore_n 2, 1) := by decide +kernel
theorem dX0_thing_2 : decode cX0_thing 2 = .ok (.iconst 0, 1) := by decide +kernel
theorem dX0_thing_3 : decode cX0_thing 3 = .ok (.istore_n 3, 1) := by decide +kernel
theorem dX0_thing_4 : decode cX0_thing 4 = .ok (.iload_n 3, 1) := by decide +kernel
theorem dX0_thing_5 : decode cX0_thing 5 = .ok (.bipush 40, 2) := by decide +kernel
theorem dX0_thing_7 : decode cX0_thing 7 = .ok (.if_icmp .ge 38, 3) := by decide +kernel
theorem dX0_thing_10 : decode cX0_thing 10 = .ok (.aload_n 0, 1) := by decide +kernel
theorem dX0_thing_11 : decode cX0_thing 11 = .ok (.invokevirtual 59, 3) := by decide +kernel
theorem dX0_thing_14 : decode cX0_thing 14 = .ok (.bipush 45, 2) := by decide +kernel
theorem dX0_thing_16 : decode cX0_thing 16 = .ok (.if_icmp .ne 29, 3) := by decide +kernel
theorem dX0_thing_19 : decode cX0_thing 19 = .ok (.iload_n 2, 1) := by decide +kernel
theorem dX0_thing_20 : decode cX0_thing 20 = .ok (.ifCond .ne 7, 3) := by decide +kernel
theorem dX0_thing_23 : decode cX0_thing 23 = .ok (.iconst 1, 1) := by decide +kernel
theorem dX0_thing_24 : decode cX0_thing 24 = .ok (.goto 4, 3) := by decide +kernel
theorem dX0_thing_27 : decode cX0_thing 27 = .ok (.iconst 0, 1) := by decide +kernel
theorem dX0_thing_28 : decode cX0_thing 28 = .ok (.istore_n 2, 1) := by decide +kernel
theorem dX0_thing_29 : decode cX0_thing 29 = .ok (.aload_n 0, 1) := by decide +kernel
theorem dX0_thing_30 : decode cX0_thing 30 = .ok (.dup, 1) := by decide +kernel
theorem dX0_thing_31 : decode cX0_thing 31 = .ok (.getfield 45, 3) := by decide +kernel
theorem dX0_thing_34 : decode cX0_thing 34 = .ok (.iconst 1, 1) := by decide +kernel
theorem dX0_thing_35 : decode cX0_thing 35 = .ok (.iadd, 1) := by decide +kernel
theorem dX0_thing_36 : decode cX0_thing 36 = .ok (.putfield 45, 3) := by decide +kernel
theorem dX0_thing_39 : decode cX0_thing 39 = .ok (.iinc 3 1, 3) := by decide +kernel
theorem dX0_thing_42 : decode cX0_thing 42 = .ok (.goto (-38), 3) := by decide +kernel
theorem dX0_thing_45 : decode cX0_thing 45 = .ok (.aload_n 0, 1) := by decide +kernel
theorem dX0_thing_46 : decode cX0_thing 46 = .ok (.invokevirtual 59, 3) := by decide +kernel
theorem dX0_thing_49 : decode cX0_thing 49 = .ok (.istore_n 3, 1) := by decide +kernel
theorem dX0_thing_50 : decode cX0_thing 50 = .ok (.iload_n 3, 1) := by decide +kernel
theorem dX0_thing_51 : decode cX0_thing 51 = .ok (.bipush 48, 2) := by decide +kernel
theorem dX0_thing_53 : decode cX0_thing 53 = .ok (.if_icmp .lt 18, 3) := by decide +kernel
theorem dX0_thing_56 : decode cX0_thing 56 = .ok (.iload_n 3, 1) := by decide +kernel
theorem dX0_thing_57 : decode cX0_thing 57 = .ok (.bipush 57, 2) := by decide +kernel
theorem dX0_thing_59 : decode cX0_thing 59 = .ok (.if_icmp .gt 12, 3) := by decide +kernel
theorem dX0_thing_62 : decode cX0_thing 62 = .ok (.aload_n 0, 1) := by decide +kernel
theorem dX0_thing_63 : decode cX0_thing 63 = .ok (.invokevirtual 69, 3) := by decide +kernel
theorem dX0_thing_66 : decode cX0_thing 66 = .ok (.istore 4, 2) := by decide +kernel
theorem dX0_thing_68 : decode cX0_thing 68 = .ok (.goto 66, 3) := by decide +kernel
theorem dX0_thing_71 : decode cX0_thing 71 = .ok (.iload_n 3, 1) := by decide +kernel
theorem dX0_thing_72 : decode cX0_thing 72 = .ok (.bipush 40, 2) := by decide +kernel
theorem dX0_thing_74 : decode cX0_thing 74 = .ok (.if_icmp .ne 53, 3) := by decide +kernel
theorem dX0_thing_77 : decode cX0_thing 77 = .ok (.iload_n 1, 1) := by decide +kernel
theorem dX0_thing_78 : decode cX0_thing 78 = .ok (.iconst 4, 1) := by decide +kernel
theorem dX0_thing_79 : decode cX0_thing 79 = .ok (.if_icmp .ge 48, 3) := by decide +kernel
theorem dX0_thing_82 : decode cX0_thing 82 = .ok (.aload_n 0, 1) := by decide +kernel
theorem dX0_thing_83 : decode cX0_thing 83 = .ok (.dup, 1) := by decide +kernel
theorem dX0_thing_84 : decode cX0_thing 84 = .ok (.getfield 45, 3) := by decide +kernel
theorem dX0_thing_87 : decode cX0_thing 87 = .ok (.iconst 1, 1) := by decide +kernel
theorem dX0_thing_88 : decode cX0_thing 88 = .ok (.iadd, 1) := by decide +kernel
theorem dX0_thing_89 : decode cX0_thing 89 = .ok (.putfield 45, 3) := by decide +kernel
theorem dX0_thing_92 : decode cX0_thing 92 = .ok (.aload_n 0, 1) := by decide +kernel
theorem dX0_thing_93 : decode cX0_thing 93 = .ok (.iload_n 1, 1) := by decide +kernel
theorem dX0_thing_94 : decode cX0_thing 94 = .ok (.iconst 1, 1) := by decide +kernel
theorem dX0_thing_95 : decode cX0_thing 95 = .ok (.iadd, 1) := by decide +kernel
theorem dX0_thing_96 : decode cX0_thing 96 = .ok (.invokevirtual 39, 3) := by decide +kernel
theorem dX0_thing_99 : decode cX0_thing 99 = .ok (.istore 4, 2) := by decide +kernel
theorem dX0_thing_101 : decode cX0_thing 101 = .ok (.aload_n 0, 1) := by decide +kernel
theorem dX0_thing_102 : decode cX0_thing 102 = .ok (.invokevirtual 59, 3) := by decide +kernel
theorem dX0_thing_105 : decode cX0_thing 105 = .ok (.bipush 41, 2) := by decide +kernel
theorem dX0_thing_107 : decode cX0_thing 107 = .ok (.if_icmp .eq 7, 3) := by decide +kernel
theorem dX0_thing_110 : decode cX0_thing 110 = .ok (.aload_n 0, 1) := by decide +kernel
theorem dX0_thing_111 : decode cX0_thing 111 = .ok (.invokevirtual 72, 3) := by decide +kernel
theorem dX0_thing_114 : decode cX0_thing 114 = .ok (.aload_n 0, 1) := by decide +kernel
theorem dX0_thing_115 : decode cX0_thing 115 = .ok (.dup, 1) := by decide +kernel
theorem dX0_thing_116 : decode cX0_thing 116 = .ok (.getfield 45, 3) := by decide +kernel
theorem dX0_thing_119 : decode cX0_thing 119 = .ok (.iconst 1, 1) := by decide +kernel
theorem dX0_thing_120 : decode cX0_thing 120 = .ok (.iadd, 1) := by decide +kernel
theorem dX0_thing_121 : decode cX0_thing 121 = .ok (.putfield 45, 3) := by decide +kernel
theorem dX0_thing_124 : decode cX0_thing 124 = .ok (.goto 10, 3) := by decide +kernel
theorem dX0_thing_127 : decode cX0_thing 127 = .ok (.aload_n 0, 1) := by decide +kernel
theorem dX0_thing_128 : decode cX0_thing 128 = .ok (.iload_n 3, 1) := by decide +kernel
theorem dX0_thing_129 : decode cX0_thing 129 = .ok (.invokevirtual 75, 3) := by decide +kernel
theorem dX0_thing_132 : decode cX0_thing 132 = .ok (.istore 4, 2) := by decide +kernel
theorem dX0_thing_134 : decode cX0_thing 134 = .ok (.iload_n 2, 1) := by decide +kernel
theorem dX0_thing_135 : decode cX0_thing 135 = .ok (.ifCond .eq 9, 3) := by decide +kernel
theorem dX0_thing_138 : decode cX0_thing 138 = .ok (.iload 4, 2) := by decide +kernel
theorem dX0_thing_140 : decode cX0_thing 140 = .ok (.ineg, 1) := by decide +kernel
theorem dX0_thing_141 : decode cX0_thing 141 = .ok (.goto 5, 3) := by decide +kernel
theorem dX0_thing_144 : decode cX0_thing 144 = .ok (.iload 4, 2) := by decide +kernel
theorem dX0_thing_146 : decode cX0_thing 146 = .ok (.ireturn, 1) := by decide +kernel
theorem dX0_digits_0 : decode cX0_digits 0 = .ok (.iconst 0, 1) := by decide +kernel
theorem dX0_digits_1 : decode cX0_digits 1 = .ok (.istore_n 1, 1) := by decide +kernel
theorem dX0_digits_2 : decode cX0_digits 2 = .ok (.iconst 0, 1) := by decide +kernel
theorem dX0_digits_3 : decode cX0_digits 3 = .ok (.istore_n 2, 1) := by decide +kernel
theorem dX0_digits_4 : decode cX0_digits 4 = .ok (.iload_n 2, 1) := by decide +kernel
theorem dX0_digits_5 : decode cX0_digits 5 = .ok (.iconst 3, 1) := by decide +kernel
theorem dX0_digits_6 : decode cX0_digits 6 = .ok (.if_icmp .ge 50, 3) := by decide +kernel
theorem dX0_digits_9 : decode cX0_digits 9 = .ok (.aload_n 0, 1) := by decide +kernel
theorem dX0_digits_10 : decode cX0_digits 10 = .ok (.invokevirtual 59, 3) := by decide +kernel
theorem dX0_digits_13 : decode cX0_digits 13 = .ok (.bipush 48, 2) := by decide +kernel
theorem dX0_digits_15 : decode cX0_digits 15 = .ok (.if_icmp .lt 41, 3) := by decide +kernel
theorem dX0_digits_18 : decode cX0_digits 18 = .ok (.aload_n 0, 1) := by decide +kernel
theorem dX0_digits_19 : decode cX0_digits 19 = .ok (.invokevirtual 59, 3) := by decide +kernel
theorem dX0_digits_22 : decode cX0_digits 22 = .ok (.bipush 57, 2) := by decide +kernel
theorem dX0_digits_24 : decode cX0_digits 24 = .ok (.if_icmp .gt 32, 3) := by decide +kernel
theorem dX0_digits_27 : decode cX0_digits 27 = .ok (.iload_n 1, 1) := by decide +kernel
theorem dX0_digits_28 : decode cX0_digits 28 = .ok (.bipush 10, 2) := by decide +kernel
theorem dX0_digits_30 : decode cX0_digits 30 = .ok (.imul, 1) := by decide +kernel
theorem dX0_digits_31 : decode cX0_digits 31 = .ok (.aload_n 0, 1) := by decide +kernel
theorem dX0_digits_32 : decode cX0_digits 32 = .ok (.invokevirtual 59, 3) := by decide +kernel
theorem dX0_digits_35 : decode cX0_digits 35 = .ok (.iadd, 1) := by decide +kernel
theorem dX0_digits_36 : decode cX0_digits 36 = .ok (.bipush 48, 2) := by decide +kernel
theorem dX0_digits_38 : decode cX0_digits 38 = .ok (.isub, 1) := by decide +kernel
theorem dX0_digits_39 : decode cX0_digits 39 = .ok (.istore_n 1, 1) := by decide +kernel
theorem dX0_digits_40 : decode cX0_digits 40 = .ok (.aload_n 0, 1) := by decide +kernel
theorem dX0_digits_41 : decode cX0_digits 41 = .ok (.dup, 1) := by decide +kernel
theorem dX0_digits_42 : decode cX0_digits 42 = .ok (.getfield 45, 3) := by decide +kernel
theorem dX0_digits_45 : decode cX0_digits 45 = .ok (.iconst 1, 1) := by decide +kernel
theorem dX0_digits_46 : decode cX0_digits 46 = .ok (.iadd, 1) := by decide +kernel
theorem dX0_digits_47 : decode cX0_digits 47 = .ok (.putfield 45, 3) := by decide +kernel
theorem dX0_digits_50 : decode cX0_digits 50 = .ok (.iinc 2 1, 3) := by decide +kernel
theorem dX0_digits_53 : decode cX0_digits 53 = .ok (.goto (-49), 3) := by decide +kernel
theorem dX0_digits_56 : decode cX0_digits 56 = .ok (.iload_n 1, 1) := by decide +kernel
theorem dX0_digits_57 : decode cX0_digits 57 = .ok (.ireturn, 1) := by decide +kernel
theorem dX0_ofRow_0 : decode cX0_ofRow 0 = .ok (.iload_n 1, 1) := by decide +kernel
theorem dX0_ofRow_1 : decode cX0_ofRow 1 = .ok (.iconst (-1), 1) := by decide +kernel
theorem dX0_ofRow_2 : decode cX0_ofRow 2 = .ok (.if_icmp .ne 7, 3) := by decide +kernel
theorem dX0_ofRow_5 : decode cX0_ofRow 5 = .ok (.iconst (-1), 1) := by decide +kernel
theorem dX0_ofRow_6 : decode cX0_ofRow 6 = .ok (.goto 10, 3) := by decide +kernel
theorem dX0_ofRow_9 : decode cX0_ofRow 9 = .ok (.ldc 78, 2) := by decide +kernel
theorem dX0_ofRow_11 : decode cX0_ofRow 11 = .ok (.iload_n 1, 1) := by decide +kernel
theorem dX0_ofRow_12 : decode cX0_ofRow 12 = .ok (.i2c, 1) := by decide +kernel
theorem dX0_ofRow_13 : decode cX0_ofRow 13 = .ok (.invokevirtual 80, 3) := by decide +kernel
theorem dX0_ofRow_16 : decode cX0_ofRow 16 = .ok (.istore_n 2, 1) := by decide +kernel
theorem dX0_ofRow_17 : decode cX0_ofRow 17 = .ok (.iload_n 2, 1) := by decide +kernel
theorem dX0_ofRow_18 : decode cX0_ofRow 18 = .ok (.ifCond .lt 9, 3) := by decide +kernel
theorem dX0_ofRow_21 : decode cX0_ofRow 21 = .ok (.iload_n 2, 1) := by decide +kernel
theorem dX0_ofRow_22 : decode cX0_ofRow 22 = .ok (.bipush 7, 2) := by decide +kernel
theorem dX0_ofRow_24 : decode cX0_ofRow 24 = .ok (.if_icmp .lt 9, 3) := by decide +kernel
theorem dX0_ofRow_27 : decode cX0_ofRow 27 = .ok (.aload_n 0, 1) := by decide +kernel
theorem dX0_ofRow_28 : decode cX0_ofRow 28 = .ok (.invokevirtual 72, 3) := by decide +kernel
theorem dX0_ofRow_31 : decode cX0_ofRow 31 = .ok (.iconst 0, 1) := by decide +kernel
theorem dX0_ofRow_32 : decode cX0_ofRow 32 = .ok (.ireturn, 1) := by decide +kernel
theorem dX0_ofRow_33 : decode cX0_ofRow 33 = .ok (.aload_n 0, 1) := by decide +kernel
theorem dX0_ofRow_34 : decode cX0_ofRow 34 = .ok (.dup, 1) := by decide +kernel
theorem dX0_ofRow_35 : decode cX0_ofRow 35 = .ok (.getfield 45, 3) := by decide +kernel
theorem dX0_ofRow_38 : decode cX0_ofRow 38 = .ok (.iconst 1, 1) := by decide +kernel
theorem dX0_ofRow_39 : decode cX0_ofRow 39 = .ok (.iadd, 1) := by decide +kernel
theorem dX0_ofRow_40 : decode cX0_ofRow 40 = .ok (.putfield 45, 3) := by decide +kernel
theorem dX0_ofRow_43 : decode cX0_ofRow 43 = .ok (.aload_n 0, 1) := by decide +kernel
theorem dX0_ofRow_44 : decode cX0_ofRow 44 = .ok (.getfield 15, 3) := by decide +kernel
theorem dX0_ofRow_47 : decode cX0_ofRow 47 = .ok (.iload_n 2, 1) := by decide +kernel
theorem dX0_ofRow_48 : decode cX0_ofRow 48 = .ok (.iaload, 1) := by decide +kernel
theorem dX0_ofRow_49 : decode cX0_ofRow 49 = .ok (.ireturn, 1) := by decide +kernel
theorem dX1_init_0 : decode cX1_init 0 = .ok (.aload_n 0, 1) := by decide +kernel
theorem dX1_init_1 : decode cX1_init 1 = .ok (.invokespecial 3, 3) := by decide +kernel
theorem dX1_init_4 : decode cX1_init 4 = .ok (.aload_n 0, 1) := by decide +kernel
theorem dX1_init_5 : decode cX1_init 5 = .ok (.bipush 100, 2) := by decide +kernel
theorem dX1_init_7 : decode cX1_init 7 = .ok (.newarray .int, 2) := by decide +kernel
theorem dX1_init_9 : decode cX1_init 9 = .ok (.putfield 9, 3) := by decide +kernel
theorem dX1_init_12 : decode cX1_init 12 = .ok (.return_, 1) := by decide +kernel
theorem dX1_clear_0 : decode cX1_clear 0 = .ok (.iconst 0, 1) := by decide +kernel
theorem dX1_clear_1 : decode cX1_clear 1 = .ok (.istore_n 1, 1) := by decide +kernel
theorem dX1_clear_2 : decode cX1_clear 2 = .ok (.iload_n 1, 1) := by decide +kernel
theorem dX1_clear_3 : decode cX1_clear 3 = .ok (.bipush 100, 2) := by decide +kernel
theorem dX1_clear_5 : decode cX1_clear 5 = .ok (.if_icmp .ge 16, 3) := by decide +kernel
theorem dX1_clear_8 : decode cX1_clear 8 = .ok (.aload_n 0, 1) := by decide +kernel
theorem dX1_clear_9 : decode cX1_clear 9 = .ok (.getfield 9, 3) := by decide +kernel
theorem dX1_clear_12 : decode cX1_clear 12 = .ok (.iload_n 1, 1) := by decide +kernel
theorem dX1_clear_13 : decode cX1_clear 13 = .ok (.iconst 0, 1) := by decide +kernel
theorem dX1_clear_14 : decode cX1_clear 14 = .ok (.iastore, 1) := by decide +kernel
theorem dX1_clear_15 : decode cX1_clear 15 = .ok (.iinc 1 1, 3) := by decide +kernel
theorem dX1_clear_18 : decode cX1_clear 18 = .ok (.goto (-16), 3) := by decide +kernel
theorem dX1_clear_21 : decode cX1_clear 21 = .ok (.return_, 1) := by decide +kernel
theorem dX1_amount_0 : decode cX1_amount 0 = .ok (.iload_n 1, 1) := by decide +kernel
theorem dX1_amount_1 : decode cX1_amount 1 = .ok (.invokestatic 15, 3) := by decide +kernel
theorem dX1_amount_4 : decode cX1_amount 4 = .ok (.ifCond .eq 12, 3) := by decide +kernel
theorem dX1_amount_7 : decode cX1_amount 7 = .ok (.aload_n 0, 1) := by decide +kernel
theorem dX1_amount_8 : decode cX1_amount 8 = .ok (.getfield 9, 3) := by decide +kernel
theorem dX1_amount_11 : decode cX1_amount 11 = .ok (.iload_n 1, 1) := by decide +kernel
theorem dX1_amount_12 : decode cX1_amount 12 = .ok (.iaload, 1) := by decide +kernel
theorem dX1_amount_13 : decode cX1_amount 13 = .ok (.goto 4, 3) := by decide +kernel
theorem dX1_amount_16 : decode cX1_amount 16 = .ok (.iconst 0, 1) := by decide +kernel
theorem dX1_amount_17 : decode cX1_amount 17 = .ok (.ireturn, 1) := by decide +kernel
theorem dX1_add_0 : decode cX1_add 0 = .ok (.iconst 0, 1) := by decide +kernel
theorem dX1_add_1 : decode cX1_add 1 = .ok (.iload_n 1, 1) := by decide +kernel
theorem dX1_add_2 : decode cX1_add 2 = .ok (.invokestatic 19, 3) := by decide +kernel
theorem dX1_add_5 : decode cX1_add 5 = .ok (.istore 4, 2) := by decide +kernel
theorem dX1_add_7 : decode cX1_add 7 = .ok (.iload 4, 2) := by decide +kernel
theorem dX1_add_9 : decode cX1_add 9 = .ok (.iload_n 2, 1) := by decide +kernel
theorem dX1_add_10 : decode cX1_add 10 = .ok (.if_icmp .ge 27, 3) := by decide +kernel
theorem dX1_add_13 : decode cX1_add 13 = .ok (.iload 4, 2) := by decide +kernel
theorem dX1_add_15 : decode cX1_add 15 = .ok (.bipush 100, 2) := by decide +kernel
theorem dX1_add_17 : decode cX1_add 17 = .ok (.if_icmp .ge 20, 3) := by decide +kernel
theorem dX1_add_20 : decode cX1_add 20 = .ok (.aload_n 0, 1) := by decide +kernel
theorem dX1_add_21 : decode cX1_add 21 = .ok (.getfield 9, 3) := by decide +kernel
theorem dX1_add_24 : decode cX1_add 24 = .ok (.iload 4, 2) := by decide +kernel
theorem dX1_add_26 : decode cX1_add 26 = .ok (.dup2, 1) := by decide +kernel
theorem dX1_add_27 : decode cX1_add 27 = .ok (.iaload, 1) := by decide +kernel
theorem dX1_add_28 : decode cX1_add 28 = .ok (.iload_n 3, 1) := by decide +kernel
theorem dX1_add_29 : decode cX1_add 29 = .ok (.iadd, 1) := by decide +kernel
theorem dX1_add_30 : decode cX1_add 30 = .ok (.iastore, 1) := by decide +kernel
theorem dX1_add_31 : decode cX1_add 31 = .ok (.iinc 4 1, 3) := by decide +kernel
theorem dX1_add_34 : decode cX1_add 34 = .ok (.goto (-27), 3) := by decide +kernel
theorem dX1_add_37 : decode cX1_add 37 = .ok (.return_, 1) := by decide +kernel
theorem dX1_addRows_0 : decode cX1_addRows 0 = .ok (.iconst 0, 1) := by decide +kernel
theorem dX1_addRows_1 : decode cX1_addRows 1 = .ok (.istore 4, 2) := by decide +kernel
theorem dX1_addRows_3 : decode cX1_addRows 3 = .ok (.iload 4, 2) := by decide +kernel
theorem dX1_addRows_5 : decode cX1_addRows 5 = .ok (.aload_n 1, 1) := by decide +kernel
theorem dX1_addRows_6 : decode cX1_addRows 6 = .ok (.getfield 25, 3) := by decide +kernel
theorem dX1_addRows_9 : decode cX1_addRows 9 = .ok (.if_icmp .ge 39, 3) := by decide +kernel
theorem dX1_addRows_12 : decode cX1_addRows 12 = .ok (.aload_n 1, 1) := by decide +kernel
theorem dX1_addRows_13 : decode cX1_addRows 13 = .ok (.iload 4, 2) := by decide +kernel
theorem dX1_addRows_15 : decode cX1_addRows 15 = .ok (.iconst 0, 1) := by decide +kernel
theorem dX1_addRows_16 : decode cX1_addRows 16 = .ok (.invokevirtual 31, 3) := by decide +kernel
theorem dX1_addRows_19 : decode cX1_addRows 19 = .ok (.iload_n 2, 1) := by decide +kernel
theorem dX1_addRows_20 : decode cX1_addRows 20 = .ok (.if_icmp .ne 22, 3) := by decide +kernel
theorem dX1_addRows_23 : decode cX1_addRows 23 = .ok (.aload_n 0, 1) := by decide +kernel
theorem dX1_addRows_24 : decode cX1_addRows 24 = .ok (.aload_n 1, 1) := by decide +kernel
theorem dX1_addRows_25 : decode cX1_addRows 25 = .ok (.iload 4, 2) := by decide +kernel
theorem dX1_addRows_27 : decode cX1_addRows 27 = .ok (.iconst 2, 1) := by decide +kernel
theorem dX1_addRows_28 : decode cX1_addRows 28 = .ok (.invokevirtual 31, 3) := by decide +kernel
theorem dX1_addRows_31 : decode cX1_addRows 31 = .ok (.aload_n 1, 1) := by decide +kernel
theorem dX1_addRows_32 : decode cX1_addRows 32 = .ok (.iload 4, 2) := by decide +kernel
theorem dX1_addRows_34 : decode cX1_addRows 34 = .ok (.iconst 3, 1) := by decide +kernel
theorem dX1_addRows_35 : decode cX1_addRows 35 = .ok (.invokevirtual 31, 3) := by decide +kernel
theorem dX1_addRows_38 : decode cX1_addRows 38 = .ok (.iload_n 3, 1) := by decide +kernel
theorem dX1_addRows_39 : decode cX1_addRows 39 = .ok (.invokevirtual 34, 3) := by decide +kernel
theorem dX1_addRows_42 : decode cX1_addRows 42 = .ok (.iinc 4 1, 3) := by decide +kernel
theorem dX1_addRows_45 : decode cX1_addRows 45 = .ok (.goto (-42), 3) := by decide +kernel
theorem dX1_addRows_48 : decode cX1_addRows 48 = .ok (.return_, 1) := by decide +kernel
theorem dX1_addValues_0 : decode cX1_addValues 0 = .ok (.iconst 0, 1) := by decide +kernel
theorem dX1_addValues_1 : decode cX1_addValues 1 = .ok (.istore 4, 2) := by decide +kernel
theorem dX1_addValues_3 : decode cX1_addValues 3 = .ok (.iload 4, 2) := by decide +kernel
theorem dX1_addValues_5 : decode cX1_addValues 5 = .ok (.aload_n 1, 1) := by decide +kernel
theorem dX1_addValues_6 : decode cX1_addValues 6 = .ok (.getfield 25, 3) := by decide +kernel
theorem dX1_addValues_9 : decode cX1_addValues 9 = .ok (.if_icmp .ge 49, 3) := by decide +kernel
theorem dX1_addValues_12 : decode cX1_addValues 12 = .ok (.aload_n 1, 1) := by decide +kernel
theorem dX1_addValues_13 : decode cX1_addValues 13 = .ok (.iload 4, 2) := by decide +kernel
theorem dX1_addValues_15 : decode cX1_addValues 15 = .ok (.iconst 0, 1) := by decide +kernel
theorem dX1_addValues_16 : decode cX1_addValues 16 = .ok (.invokevirtual 31, 3) := by decide +kernel
theorem dX1_addValues_19 : decode cX1_addValues 19 = .ok (.iload_n 2, 1) := by decide +kernel
theorem dX1_addValues_20 : decode cX1_addValues 20 = .ok (.if_icmp .ne 32, 3) := by decide +kernel
theorem dX1_addValues_23 : decode cX1_addValues 23 = .ok (.aload_n 0, 1) := by decide +kernel
theorem dX1_addValues_24 : decode cX1_addValues 24 = .ok (.aload_n 1, 1) := by decide +kernel
theorem dX1_addValues_25 : decode cX1_addValues 25 = .ok (.iload 4, 2) := by decide +kernel
theorem dX1_addValues_27 : decode cX1_addValues 27 = .ok (.iconst 2, 1) := by decide +kernel
theorem dX1_addValues_28 : decode cX1_addValues 28 = .ok (.invokevirtual 31, 3) := by decide +kernel
theorem dX1_addValues_31 : decode cX1_addValues 31 = .ok (.aload_n 1, 1) := by decide +kernel
theorem dX1_addValues_32 : decode cX1_addValues 32 = .ok (.iload 4, 2) := by decide +kernel
theorem dX1_addValues_34 : decode cX1_addValues 34 = .ok (.iconst 3, 1) := by decide +kernel
theorem dX1_addValues_35 : decode cX1_addValues 35 = .ok (.invokevirtual 31, 3) := by decide +kernel
theorem dX1_addValues_38 : decode cX1_addValues 38 = .ok (.iload_n 3, 1) := by decide +kernel
theorem dX1_addValues_39 : decode cX1_addValues 39 = .ok (.aload_n 1, 1) := by decide +kernel
theorem dX1_addValues_40 : decode cX1_addValues 40 = .ok (.iload 4, 2) := by decide +kernel
theorem dX1_addValues_42 : decode cX1_addValues 42 = .ok (.iconst 1, 1) := by decide +kernel
theorem dX1_addValues_43 : decode cX1_addValues 43 = .ok (.invokevirtual 31, 3) := by decide +kernel
theorem dX1_addValues_46 : decode cX1_addValues 46 = .ok (.iconst 1, 1) := by decide +kernel
theorem dX1_addValues_47 : decode cX1_addValues 47 = .ok (.iadd, 1) := by decide +kernel
theorem dX1_addValues_48 : decode cX1_addValues 48 = .ok (.imul, 1) := by decide +kernel
theorem dX1_addValues_49 : decode cX1_addValues 49 = .ok (.invokevirtual 34, 3) := by decide +kernel
theorem dX1_addValues_52 : decode cX1_addValues 52 = .ok (.iinc 4 1, 3) := by decide +kernel
theorem dX1_addValues_55 : decode cX1_addValues 55 = .ok (.goto (-52), 3) := by decide +kernel
theorem dX1_addValues_58 : decode cX1_addValues 58 = .ok (.return_, 1) := by decide +kernel
theorem dX1_daysMarked_0 : decode cX1_daysMarked 0 = .ok (.iconst 0, 1) := by decide +kernel
theorem dX1_daysMarked_1 : decode cX1_daysMarked 1 = .ok (.istore_n 3, 1) := by decide +kernel
theorem dX1_daysMarked_2 : decode cX1_daysMarked 2 = .ok (.iload_n 1, 1) := by decide +kernel
theorem dX1_daysMarked_3 : decode cX1_daysMarked 3 = .ok (.istore 4, 2) := by decide +kernel
theorem dX1_daysMarked_5 : decode cX1_daysMarked 5 = .ok (.iload 4, 2) := by decide +kernel
theorem dX1_daysMarked_7 : decode cX1_daysMarked 7 = .ok (.iload_n 2, 1) := by decide +kernel
theorem dX1_daysMarked_8 : decode cX1_daysMarked 8 = .ok (.if_icmp .ge 21, 3) := by decide +kernel
theorem dX1_daysMarked_11 : decode cX1_daysMarked 11 = .ok (.aload_n 0, 1) := by decide +kernel
theorem dX1_daysMarked_12 : decode cX1_daysMarked 12 = .ok (.iload 4, 2) := by decide +kernel
theorem dX1_daysMarked_14 : decode cX1_daysMarked 14 = .ok (.invokevirtual 38, 3) := by decide +kernel
theorem dX1_daysMarked_17 : decode cX1_daysMarked 17 = .ok (.ifCond .eq 6, 3) := by decide +kernel
theorem dX1_daysMarked_20 : decode cX1_daysMarked 20 = .ok (.iinc 3 1, 3) := by decide +kernel
theorem dX1_daysMarked_23 : decode cX1_daysMarked 23 = .ok (.iinc 4 1, 3) := by decide +kernel
theorem dX1_daysMarked_26 : decode cX1_daysMarked 26 = .ok (.goto (-21), 3) := by decide +kernel
theorem dX1_daysMarked_29 : decode cX1_daysMarked 29 = .ok (.iload_n 3, 1) := by decide +kernel
theorem dX1_daysMarked_30 : decode cX1_daysMarked 30 = .ok (.ireturn, 1) := by decide +kernel
theorem dX1_stretchEnd_0 : decode cX1_stretchEnd 0 = .ok (.iload_n 1, 1) := by decide +kernel
theorem dX1_stretchEnd_1 : decode cX1_stretchEnd 1 = .ok (.iconst 1, 1) := by decide +kernel
theorem dX1_stretchEnd_2 : decode cX1_stretchEnd 2 = .ok (.iadd, 1) := by decide +kernel
theorem dX1_stretchEnd_3 : decode cX1_stretchEnd 3 = .ok (.istore_n 3, 1) := by decide +kernel
theorem dX1_stretchEnd_4 : decode cX1_stretchEnd 4 = .ok (.iload_n 1, 1) := by decide +kernel
theorem dX1_stretchEnd_5 : decode cX1_stretchEnd 5 = .ok (.iconst 1, 1) := by decide +kernel
theorem dX1_stretchEnd_6 : decode cX1_stretchEnd 6 = .ok (.iadd, 1) := by decide +kernel
theorem dX1_stretchEnd_7 : decode cX1_stretchEnd 7 = .ok (.istore 4, 2) := by decide +kernel
theorem dX1_stretchEnd_9 : decode cX1_stretchEnd 9 = .ok (.iload 4, 2) := by decide +kernel
theorem dX1_stretchEnd_11 : decode cX1_stretchEnd 11 = .ok (.iload_n 2, 1) := by decide +kernel
theorem dX1_stretchEnd_12 : decode cX1_stretchEnd 12 = .ok (.if_icmp .ge 28, 3) := by decide +kernel
theorem dX1_stretchEnd_15 : decode cX1_stretchEnd 15 = .ok (.aload_n 0, 1) := by decide +kernel
theorem dX1_stretchEnd_16 : decode cX1_stretchEnd 16 = .ok (.iload 4, 2) := by decide +kernel
theorem dX1_stretchEnd_18 : decode cX1_stretchEnd 18 = .ok (.invokevirtual 38, 3) := by decide +kernel
theorem dX1_stretchEnd_21 : decode cX1_stretchEnd 21 = .ok (.aload_n 0, 1) := by decide +kernel
theorem dX1_stretchEnd_22 : decode cX1_stretchEnd 22 = .ok (.iload_n 1, 1) := by decide +kernel
theorem dX1_stretchEnd_23 : decode cX1_stretchEnd 23 = .ok (.invokevirtual 38, 3) := by decide +kernel
theorem dX1_stretchEnd_26 : decode cX1_stretchEnd 26 = .ok (.if_icmp .ne 14, 3) := by decide +kernel
theorem dX1_stretchEnd_29 : decode cX1_stretchEnd 29 = .ok (.iload 4, 2) := by decide +kernel
theorem dX1_stretchEnd_31 : decode cX1_stretchEnd 31 = .ok (.iconst 1, 1) := by decide +kernel
theorem dX1_stretchEnd_32 : decode cX1_stretchEnd 32 = .ok (.iadd, 1) := by decide +kernel
theorem dX1_stretchEnd_33 : decode cX1_stretchEnd 33 = .ok (.istore_n 3, 1) := by decide +kernel
theorem dX1_stretchEnd_34 : decode cX1_stretchEnd 34 = .ok (.iinc 4 1, 3) := by decide +kernel
theorem dX1_stretchEnd_37 : decode cX1_stretchEnd 37 = .ok (.goto (-28), 3) := by decide +kernel
theorem dX1_stretchEnd_40 : decode cX1_stretchEnd 40 = .ok (.iload_n 3, 1) := by decide +kernel
theorem dX1_stretchEnd_41 : decode cX1_stretchEnd 41 = .ok (.ireturn, 1) := by decide +kernel
theorem dX2_init_0 : decode cX2_init 0 = .ok (.aload_n 0, 1) := by decide +kernel
theorem dX2_init_1 : decode cX2_init 1 = .ok (.invokespecial 3, 3) := by decide +kernel
theorem dX2_init_4 : decode cX2_init 4 = .ok (.aload_n 0, 1) := by decide +kernel
theorem dX2_init_5 : decode cX2_init 5 = .ok (.bipush 11, 2) := by decide +kernel
theorem dX2_init_7 : decode cX2_init 7 = .ok (.anewarray 9, 3) := by decide +kernel
theorem dX2_init_10 : decode cX2_init 10 = .ok (.putfield 11, 3) := by decide +kernel
theorem dX2_init_13 : decode cX2_init 13 = .ok (.iconst 0, 1) := by decide +kernel
theorem dX2_init_14 : decode cX2_init 14 = .ok (.istore_n 1, 1) := by decide +kernel
theorem dX2_init_15 : decode cX2_init 15 = .ok (.iload_n 1, 1) := by decide +kernel
theorem dX2_init_16 : decode cX2_init 16 = .ok (.bipush 11, 2) := by decide +kernel
theorem dX2_init_18 : decode cX2_init 18 = .ok (.if_icmp .ge 22, 3) := by decide +kernel
theorem dX2_init_21 : decode cX2_init 21 = .ok (.aload_n 0, 1) := by decide +kernel
theorem dX2_init_22 : decode cX2_init 22 = .ok (.getfield 11, 3) := by decide +kernel
theorem dX2_init_25 : decode cX2_init 25 = .ok (.iload_n 1, 1) := by decide +kernel
theorem dX2_init_26 : decode cX2_init 26 = .ok (.new 9, 3) := by decide +kernel
theorem dX2_init_29 : decode cX2_init 29 = .ok (.dup, 1) := by decide +kernel
theorem dX2_init_30 : decode cX2_init 30 = .ok (.invokespecial 15, 3) := by decide +kernel
theorem dX2_init_33 : decode cX2_init 33 = .ok (.aastore, 1) := by decide +kernel
theorem dX2_init_34 : decode cX2_init 34 = .ok (.iinc 1 1, 3) := by decide +kernel
theorem dX2_init_37 : decode cX2_init 37 = .ok (.goto (-22), 3) := by decide +kernel
theorem dX2_init_40 : decode cX2_init 40 = .ok (.return_, 1) := by decide +kernel
theorem dX2_slot_0 : decode cX2_slot 0 = .ok (.aload_n 0, 1) := by decide +kernel
theorem dX2_slot_1 : decode cX2_slot 1 = .ok (.getfield 11, 3) := by decide +kernel
theorem dX2_slot_4 : decode cX2_slot 4 = .ok (.aload_n 0, 1) := by decide +kernel
theorem dX2_slot_5 : decode cX2_slot 5 = .ok (.getfield 16, 3) := by decide +kernel
theorem dX2_slot_8 : decode cX2_slot 8 = .ok (.iload_n 1, 1) := by decide +kernel
theorem dX2_slot_9 : decode cX2_slot 9 = .ok (.iadd, 1) := by decide +kernel
theorem dX2_slot_10 : decode cX2_slot 10 = .ok (.bipush 11, 2) := by decide +kernel
theorem dX2_slot_12 : decode cX2_slot 12 = .ok (.invokestatic 20, 3) := by decide +kernel
theorem dX2_slot_15 : decode cX2_slot 15 = .ok (.aaload, 1) := by decide +kernel
theorem dX2_slot_16 : decode cX2_slot 16 = .ok (.areturn, 1) := by decide +kernel
theorem dX2_prepare_0 : decode cX2_prepare 0 = .ok (.aload_n 0, 1) := by decide +kernel
theorem dX2_prepare_1 : decode cX2_prepare 1 = .ok (.aload_n 0, 1) := by decide +kernel
theorem dX2_prepare_2 : decode cX2_prepare 2 = .ok (.getfield 26, 3) := by decide +kernel
theorem dX2_prepare_5 : decode cX2_prepare 5 = .ok (.invokevirtual 29, 3) := by decide +kernel
theorem dX2_prepare_8 : decode cX2_prepare 8 = .ok (.aload_n 1, 1) := by decide +kernel
theorem dX2_prepare_9 : decode cX2_prepare 9 = .ok (.invokevirtual 33, 3) := by decide +kernel
theorem dX2_prepare_12 : decode cX2_prepare 12 = .ok (.return_, 1) := by decide +kernel
theorem dX2_confirm_0 : decode cX2_confirm 0 = .ok (.aload_n 0, 1) := by decide +kernel
theorem dX2_confirm_1 : decode cX2_confirm 1 = .ok (.getfield 26, 3) := by decide +kernel
theorem dX2_confirm_4 : decode cX2_confirm 4 = .ok (.bipush 10, 2) := by decide +kernel
theorem dX2_confirm_6 : decode cX2_confirm 6 = .ok (.if_icmp .ge 16, 3) := by decide +kernel
theorem dX2_confirm_9 : decode cX2_confirm 9 = .ok (.aload_n 0, 1) := by decide +kernel
theorem dX2_confirm_10 : decode cX2_confirm 10 = .ok (.dup, 1) := by decide +kernel
theorem dX2_confirm_11 : decode cX2_confirm 11 = .ok (.getfield 26, 3) := by decide +kernel
theorem dX2_confirm_14 : decode cX2_confirm 14 = .ok (.iconst 1, 1) := by decide +kernel
theorem dX2_confirm_15 : decode cX2_confirm 15 = .ok (.iadd, 1) := by decide +kernel
theorem dX2_confirm_16 : decode cX2_confirm 16 = .ok (.putfield 26, 3) := by decide +kernel
theorem dX2_confirm_19 : decode cX2_confirm 19 = .ok (.goto 18, 3) := by decide +kernel
theorem dX2_confirm_22 : decode cX2_confirm 22 = .ok (.aload_n 0, 1) := by decide +kernel
theorem dX2_confirm_23 : decode cX2_confirm 23 = .ok (.aload_n 0, 1) := by decide +kernel
theorem dX2_confirm_24 : decode cX2_confirm 24 = .ok (.getfield 16, 3) := by decide +kernel
theorem dX2_confirm_27 : decode cX2_confirm 27 = .ok (.iconst 1, 1) := by decide +kernel
theorem dX2_confirm_28 : decode cX2_confirm 28 = .ok (.iadd, 1) := by decide +kernel
theorem dX2_confirm_29 : decode cX2_confirm 29 = .ok (.bipush 11, 2) := by decide +kernel
theorem dX2_confirm_31 : decode cX2_confirm 31 = .ok (.invokestatic 20, 3) := by decide +kernel
theorem dX2_confirm_34 : decode cX2_confirm 34 = .ok (.putfield 16, 3) := by decide +kernel
theorem dX2_confirm_37 : decode cX2_confirm 37 = .ok (.return_, 1) := by decide +kernel
theorem dX3_init_0 : decode cX3_init 0 = .ok (.aload_n 0, 1) := by decide +kernel
theorem dX3_init_1 : decode cX3_init 1 = .ok (.invokespecial 1, 3) := by decide +kernel
theorem dX3_init_4 : decode cX3_init 4 = .ok (.aload_n 0, 1) := by decide +kernel
theorem dX3_init_5 : decode cX3_init 5 = .ok (.bipush 12, 2) := by decide +kernel
theorem dX3_init_7 : decode cX3_init 7 = .ok (.newarray .int, 2) := by decide +kernel
theorem dX3_init_9 : decode cX3_init 9 = .ok (.putfield 9, 3) := by decide +kernel
theorem dX3_init_12 : decode cX3_init 12 = .ok (.return_, 1) := by decide +kernel
theorem dX3_add_0 : decode cX3_add 0 = .ok (.aload_n 0, 1) := by decide +kernel
theorem dX3_add_1 : decode cX3_add 1 = .ok (.getfield 13, 3) := by decide +kernel
theorem dX3_add_4 : decode cX3_add 4 = .ok (.ifCond .lt 12, 3) := by decide +kernel
theorem dX3_add_7 : decode cX3_add 7 = .ok (.aload_n 0, 1) := by decide +kernel
theorem dX3_add_8 : decode cX3_add 8 = .ok (.getfield 13, 3) := by decide +kernel
theorem dX3_add_11 : decode cX3_add 11 = .ok (.bipush 12, 2) := by decide +kernel
theorem dX3_add_13 : decode cX3_add 13 = .ok (.if_icmp .lt 5, 3) := by decide +kernel
theorem dX3_add_16 : decode cX3_add 16 = .ok (.iconst 0, 1) := by decide +kernel
theorem dX3_add_17 : decode cX3_add 17 = .ok (.ireturn, 1) := by decide +kernel
theorem dX3_add_18 : decode cX3_add 18 = .ok (.aload_n 0, 1) := by decide +kernel
theorem dX3_add_19 : decode cX3_add 19 = .ok (.getfield 9, 3) := by decide +kernel
theorem dX3_add_22 : decode cX3_add 22 = .ok (.aload_n 0, 1) := by decide +kernel
theorem dX3_add_23 : decode cX3_add 23 = .ok (.getfield 13, 3) := by decide +kernel
theorem dX3_add_26 : decode cX3_add 26 = .ok (.iload_n 1, 1) := by decide +kernel
theorem dX3_add_27 : decode cX3_add 27 = .ok (.iastore, 1) := by decide +kernel
theorem dX3_add_28 : decode cX3_add 28 = .ok (.aload_n 0, 1) := by decide +kernel
theorem dX3_add_29 : decode cX3_add 29 = .ok (.dup, 1) := by decide +kernel
theorem dX3_add_30 : decode cX3_add 30 = .ok (.getfield 13, 3) := by decide +kernel
theorem dX3_add_33 : decode cX3_add 33 = .ok (.iconst 1, 1) := by decide +kernel
theorem dX3_add_34 : decode cX3_add 34 = .ok (.iadd, 1) := by decide +kernel
theorem dX3_add_35 : decode cX3_add 35 = .ok (.putfield 13, 3) := by decide +kernel
theorem dX3_add_38 : decode cX3_add 38 = .ok (.iconst 1, 1) := by decide +kernel
theorem dX3_add_39 : decode cX3_add 39 = .ok (.ireturn, 1) := by decide +kernel
theorem dX3_questionAt_0 : decode cX3_questionAt 0 = .ok (.iload_n 1, 1) := by decide +kernel
theorem dX3_questionAt_1 : decode cX3_questionAt 1 = .ok (.ifCond .lt 26, 3) := by decide +kernel
theorem dX3_questionAt_4 : decode cX3_questionAt 4 = .ok (.iload_n 1, 1) := by decide +kernel
theorem dX3_questionAt_5 : decode cX3_questionAt 5 = .ok (.aload_n 0, 1) := by decide +kernel
theorem dX3_questionAt_6 : decode cX3_questionAt 6 = .ok (.getfield 13, 3) := by decide +kernel
theorem dX3_questionAt_9 : decode cX3_questionAt 9 = .ok (.if_icmp .ge 18, 3) := by decide +kernel
theorem dX3_questionAt_12 : decode cX3_questionAt 12 = .ok (.iload_n 1, 1) := by decide +kernel
theorem dX3_questionAt_13 : decode cX3_questionAt 13 = .ok (.bipush 12, 2) := by decide +kernel
theorem dX3_questionAt_15 : decode cX3_questionAt 15 = .ok (.if_icmp .ge 12, 3) := by decide +kernel
theorem dX3_questionAt_18 : decode cX3_questionAt 18 = .ok (.aload_n 0, 1) := by decide +kernel
theorem dX3_questionAt_19 : decode cX3_questionAt 19 = .ok (.getfield 9, 3) := by decide +kernel
theorem dX3_questionAt_22 : decode cX3_questionAt 22 = .ok (.iload_n 1, 1) := by decide +kernel
theorem dX3_questionAt_23 : decode cX3_questionAt 23 = .ok (.iaload, 1) := by decide +kernel
theorem dX3_questionAt_24 : decode cX3_questionAt 24 = .ok (.goto 4, 3) := by decide +kernel
theorem dX3_questionAt_27 : decode cX3_questionAt 27 = .ok (.iconst 0, 1) := by decide +kernel
theorem dX3_questionAt_28 : decode cX3_questionAt 28 = .ok (.ireturn, 1) := by decide +kernel
theorem dX4_init_0 : decode cX4_init 0 = .ok (.aload_n 0, 1) := by decide +kernel
theorem dX4_init_1 : decode cX4_init 1 = .ok (.invokespecial 3, 3) := by decide +kernel
theorem dX4_init_4 : decode cX4_init 4 = .ok (.aload_n 0, 1) := by decide +kernel
theorem dX4_init_5 : decode cX4_init 5 = .ok (.new 9, 3) := by decide +kernel
theorem dX4_init_8 : decode cX4_init 8 = .ok (.dup, 1) := by decide +kernel
theorem dX4_init_9 : decode cX4_init 9 = .ok (.invokespecial 11, 3) := by decide +kernel
theorem dX4_init_12 : decode cX4_init 12 = .ok (.putfield 12, 3) := by decide +kernel
theorem dX4_init_15 : decode cX4_init 15 = .ok (.aload_n 0, 1) := by decide +kernel
theorem dX4_init_16 : decode cX4_init 16 = .ok (.new 9, 3) := by decide +kernel
theorem dX4_init_19 : decode cX4_init 19 = .ok (.dup, 1) := by decide +kernel
theorem dX4_init_20 : decode cX4_init 20 = .ok (.invokespecial 11, 3) := by decide +kernel
theorem dX4_init_23 : decode cX4_init 23 = .ok (.putfield 18, 3) := by decide +kernel
theorem dX4_init_26 : decode cX4_init 26 = .ok (.return_, 1) := by decide +kernel
theorem dX4_table_0 : decode cX4_table 0 = .ok (.iload_n 1, 1) := by decide +kernel
theorem dX4_table_1 : decode cX4_table 1 = .ok (.ifCond .ne 10, 3) := by decide +kernel
theorem dX4_table_4 : decode cX4_table 4 = .ok (.aload_n 0, 1) := by decide +kernel
theorem dX4_table_5 : decode cX4_table 5 = .ok (.getfield 12, 3) := by decide +kernel
theorem dX4_table_8 : decode cX4_table 8 = .ok (.goto 7, 3) := by decide +kernel
theorem dX4_table_11 : decode cX4_table 11 = .ok (.aload_n 0, 1) := by decide +kernel
theorem dX4_table_12 : decode cX4_table 12 = .ok (.getfield 18, 3) := by decide +kernel
theorem dX4_table_15 : decode cX4_table 15 = .ok (.areturn, 1) := by decide +kernel
theorem dX4_copyOf_0 : decode cX4_copyOf 0 = .ok (.aload_n 0, 1) := by decide +kernel
theorem dX4_copyOf_1 : decode cX4_copyOf 1 = .ok (.getfield 12, 3) := by decide +kernel
theorem dX4_copyOf_4 : decode cX4_copyOf 4 = .ok (.aload_n 1, 1) := by decide +kernel
theorem dX4_copyOf_5 : decode cX4_copyOf 5 = .ok (.getfield 12, 3) := by decide +kernel
theorem dX4_copyOf_8 : decode cX4_copyOf 8 = .ok (.invokevirtual 21, 3) := by decide +kernel
theorem dX4_copyOf_11 : decode cX4_copyOf 11 = .ok (.aload_n 0, 1) := by decide +kernel
theorem dX4_copyOf_12 : decode cX4_copyOf 12 = .ok (.getfield 18, 3) := by decide +kernel
theorem dX4_copyOf_15 : decode cX4_copyOf 15 = .ok (.aload_n 1, 1) := by decide +kernel
theorem dX4_copyOf_16 : decode cX4_copyOf 16 = .ok (.getfield 18, 3) := by decide +kernel
theorem dX4_copyOf_19 : decode cX4_copyOf 19 = .ok (.invokevirtual 21, 3) := by decide +kernel
theorem dX4_copyOf_22 : decode cX4_copyOf 22 = .ok (.aload_n 0, 1) := by decide +kernel
theorem dX4_copyOf_23 : decode cX4_copyOf 23 = .ok (.aload_n 1, 1) := by decide +kernel
theorem dX4_copyOf_24 : decode cX4_copyOf 24 = .ok (.getfield 25, 3) := by decide +kernel
theorem dX4_copyOf_27 : decode cX4_copyOf 27 = .ok (.putfield 25, 3) := by decide +kernel
theorem dX4_copyOf_30 : decode cX4_copyOf 30 = .ok (.return_, 1) := by decide +kernel
theorem dX4_isHeld_0 : decode cX4_isHeld 0 = .ok (.iconst 1, 1) := by decide +kernel
theorem dX4_isHeld_1 : decode cX4_isHeld 1 = .ok (.istore_n 1, 1) := by decide +kernel
theorem dX4_isHeld_2 : decode cX4_isHeld 2 = .ok (.iconst 0, 1) := by decide +kernel
theorem dX4_isHeld_3 : decode cX4_isHeld 3 = .ok (.istore_n 2, 1) := by decide +kernel
theorem dX4_isHeld_4 : decode cX4_isHeld 4 = .ok (.iload_n 2, 1) := by decide +kernel
theorem dX4_isHeld_5 : decode cX4_isHeld 5 = .ok (.aload_n 0, 1) := by decide +kernel
theorem dX4_isHeld_6 : decode cX4_isHeld 6 = .ok (.getfield 12, 3) := by decide +kernel
theorem dX4_isHeld_9 : decode cX4_isHeld 9 = .ok (.getfield 29, 3) := by decide +kernel
theorem dX4_isHeld_12 : decode cX4_isHeld 12 = .ok (.if_icmp .ge 76, 3) := by decide +kernel
theorem dX4_isHeld_15 : decode cX4_isHeld 15 = .ok (.aload_n 0, 1) := by decide +kernel
theorem dX4_isHeld_16 : decode cX4_isHeld 16 = .ok (.getfield 12, 3) := by decide +kernel
theorem dX4_isHeld_19 : decode cX4_isHeld 19 = .ok (.iload_n 2, 1) := by decide +kernel
theorem dX4_isHeld_20 : decode cX4_isHeld 20 = .ok (.iconst 4, 1) := by decide +kernel
theorem dX4_isHeld_21 : decode cX4_isHeld 21 = .ok (.invokevirtual 32, 3) := by decide +kernel
theorem dX4_isHeld_24 : decode cX4_isHeld 24 = .ok (.istore_n 3, 1) := by decide +kernel
theorem dX4_isHeld_25 : decode cX4_isHeld 25 = .ok (.aload_n 0, 1) := by decide +kernel
theorem dX4_isHeld_26 : decode cX4_isHeld 26 = .ok (.getfield 18, 3) := by decide +kernel
theorem dX4_isHeld_29 : decode cX4_isHeld 29 = .ok (.iload_n 3, 1) := by decide +kernel
theorem dX4_isHeld_30 : decode cX4_isHeld 30 = .ok (.aload_n 0, 1) := by decide +kernel
theorem dX4_isHeld_31 : decode cX4_isHeld 31 = .ok (.getfield 12, 3) := by decide +kernel
theorem dX4_isHeld_34 : decode cX4_isHeld 34 = .ok (.iload_n 2, 1) := by decide +kernel
theorem dX4_isHeld_35 : decode cX4_isHeld 35 = .ok (.iconst 2, 1) := by decide +kernel
theorem dX4_isHeld_36 : decode cX4_isHeld 36 = .ok (.invokevirtual 32, 3) := by decide +kernel
theorem dX4_isHeld_39 : decode cX4_isHeld 39 = .ok (.aload_n 0, 1) := by decide +kernel
theorem dX4_isHeld_40 : decode cX4_isHeld 40 = .ok (.getfield 12, 3) := by decide +kernel
theorem dX4_isHeld_43 : decode cX4_isHeld 43 = .ok (.iload_n 2, 1) := by decide +kernel
theorem dX4_isHeld_44 : decode cX4_isHeld 44 = .ok (.iconst 3, 1) := by decide +kernel
theorem dX4_isHeld_45 : decode cX4_isHeld 45 = .ok (.invokevirtual 32, 3) := by decide +kernel
theorem dX4_isHeld_48 : decode cX4_isHeld 48 = .ok (.invokevirtual 36, 3) := by decide +kernel
theorem dX4_isHeld_51 : decode cX4_isHeld 51 = .ok (.istore 4, 2) := by decide +kernel
theorem dX4_isHeld_53 : decode cX4_isHeld 53 = .ok (.iload_n 1, 1) := by decide +kernel
theorem dX4_isHeld_54 : decode cX4_isHeld 54 = .ok (.ifCond .eq 26, 3) := by decide +kernel
theorem dX4_isHeld_57 : decode cX4_isHeld 57 = .ok (.iload_n 3, 1) := by decide +kernel
theorem dX4_isHeld_58 : decode cX4_isHeld 58 = .ok (.bipush 10, 2) := by decide +kernel
theorem dX4_isHeld_60 : decode cX4_isHeld 60 = .ok (.if_icmp .eq 16, 3) := by decide +kernel
theorem dX4_isHeld_63 : decode cX4_isHeld 63 = .ok (.iload 4, 2) := by decide +kernel
theorem dX4_isHeld_65 : decode cX4_isHeld 65 = .ok (.aload_n 0, 1) := by decide +kernel
theorem dX4_isHeld_66 : decode cX4_isHeld 66 = .ok (.getfield 12, 3) := by decide +kernel
theorem dX4_isHeld_69 : decode cX4_isHeld 69 = .ok (.iload_n 2, 1) := by decide +kernel
theorem dX4_isHeld_70 : decode cX4_isHeld 70 = .ok (.invokevirtual 40, 3) := by decide +kernel
theorem dX4_isHeld_73 : decode cX4_isHeld 73 = .ok (.if_icmp .ne 7, 3) := by decide +kernel
theorem dX4_isHeld_76 : decode cX4_isHeld 76 = .ok (.iconst 1, 1) := by decide +kernel
theorem dX4_isHeld_77 : decode cX4_isHeld 77 = .ok (.goto 4, 3) := by decide +kernel
theorem dX4_isHeld_80 : decode cX4_isHeld 80 = .ok (.iconst 0, 1) := by decide +kernel
theorem dX4_isHeld_81 : decode cX4_isHeld 81 = .ok (.istore_n 1, 1) := by decide +kernel
theorem dX4_isHeld_82 : decode cX4_isHeld 82 = .ok (.iinc 2 1, 3) := by decide +kernel
theorem dX4_isHeld_85 : decode cX4_isHeld 85 = .ok (.goto (-81), 3) := by decide +kernel
theorem dX4_isHeld_88 : decode cX4_isHeld 88 = .ok (.iload_n 1, 1) := by decide +kernel
theorem dX4_isHeld_89 : decode cX4_isHeld 89 = .ok (.ireturn, 1) := by decide +kernel
theorem dX5_init_0 : decode cX5_init 0 = .ok (.aload_n 0, 1) := by decide +kernel
theorem dX5_init_1 : decode cX5_init 1 = .ok (.invokespecial 1, 3) := by decide +kernel
theorem dX5_init_4 : decode cX5_init 4 = .ok (.return_, 1) := by decide +kernel
theorem dX5_clear_0 : decode cX5_clear 0 = .ok (.aload_n 0, 1) := by decide +kernel
theorem dX5_clear_1 : decode cX5_clear 1 = .ok (.iconst 0, 1) := by decide +kernel
theorem dX5_clear_2 : decode cX5_clear 2 = .ok (.putfield 7, 3) := by decide +kernel
theorem dX5_clear_5 : decode cX5_clear 5 = .ok (.aload_n 0, 1) := by decide +kernel
theorem dX5_clear_6 : decode cX5_clear 6 = .ok (.iconst 0, 1) := by decide +kernel
theorem dX5_clear_7 : decode cX5_clear 7 = .ok (.putfield 13, 3) := by decide +kernel
theorem dX5_clear_10 : decode cX5_clear 10 = .ok (.return_, 1) := by decide +kernel
theorem dX5_add_0 : decode cX5_add 0 = .ok (.aload_n 0, 1) := by decide +kernel
theorem dX5_add_1 : decode cX5_add 1 = .ok (.getfield 7, 3) := by decide +kernel
theorem dX5_add_4 : decode cX5_add 4 = .ok (.ifCond .le 32, 3) := by decide +kernel
theorem dX5_add_7 : decode cX5_add 7 = .ok (.iload_n 1, 1) := by decide +kernel
theorem dX5_add_8 : decode cX5_add 8 = .ok (.aload_n 0, 1) := by decide +kernel
theorem dX5_add_9 : decode cX5_add 9 = .ok (.getfield 16, 3) := by decide +kernel
theorem dX5_add_12 : decode cX5_add 12 = .ok (.if_icmp .ne 24, 3) := by decide +kernel
theorem dX5_add_15 : decode cX5_add 15 = .ok (.iload_n 2, 1) := by decide +kernel
theorem dX5_add_16 : decode cX5_add 16 = .ok (.aload_n 0, 1) := by decide +kernel
theorem dX5_add_17 : decode cX5_add 17 = .ok (.getfield 19, 3) := by decide +kernel
theorem dX5_add_20 : decode cX5_add 20 = .ok (.if_icmp .ne 16, 3) := by decide +kernel
theorem dX5_add_23 : decode cX5_add 23 = .ok (.iload 4, 2) := by decide +kernel
theorem dX5_add_25 : decode cX5_add 25 = .ok (.aload_n 0, 1) := by decide +kernel
theorem dX5_add_26 : decode cX5_add 26 = .ok (.getfield 22, 3) := by decide +kernel
theorem dX5_add_29 : decode cX5_add 29 = .ok (.if_icmp .ne 7, 3) := by decide +kernel
theorem dX5_add_32 : decode cX5_add 32 = .ok (.iconst 1, 1) := by decide +kernel
theorem dX5_add_33 : decode cX5_add 33 = .ok (.goto 4, 3) := by decide +kernel
theorem dX5_add_36 : decode cX5_add 36 = .ok (.iconst 0, 1) := by decide +kernel
theorem dX5_add_37 : decode cX5_add 37 = .ok (.istore 5, 2) := by decide +kernel
theorem dX5_add_39 : decode cX5_add 39 = .ok (.iload 5, 2) := by decide +kernel
theorem dX5_add_41 : decode cX5_add 41 = .ok (.ifCond .ne 13, 3) := by decide +kernel
theorem dX5_add_44 : decode cX5_add 44 = .ok (.aload_n 0, 1) := by decide +kernel
theorem dX5_add_45 : decode cX5_add 45 = .ok (.dup, 1) := by decide +kernel
theorem dX5_add_46 : decode cX5_add 46 = .ok (.getfield 7, 3) := by decide +kernel
theorem dX5_add_49 : decode cX5_add 49 = .ok (.iconst 1, 1) := by decide +kernel
theorem dX5_add_50 : decode cX5_add 50 = .ok (.iadd, 1) := by decide +kernel
theorem dX5_add_51 : decode cX5_add 51 = .ok (.putfield 7, 3) := by decide +kernel
theorem dX5_add_54 : decode cX5_add 54 = .ok (.iload 5, 2) := by decide +kernel
theorem dX5_add_56 : decode cX5_add 56 = .ok (.ifCond .ne 21, 3) := by decide +kernel
theorem dX5_add_59 : decode cX5_add 59 = .ok (.aload_n 0, 1) := by decide +kernel
theorem dX5_add_60 : decode cX5_add 60 = .ok (.getfield 7, 3) := by decide +kernel
theorem dX5_add_63 : decode cX5_add 63 = .ok (.iconst 1, 1) := by decide +kernel
theorem dX5_add_64 : decode cX5_add 64 = .ok (.if_icmp .ne 13, 3) := by decide +kernel
theorem dX5_add_67 : decode cX5_add 67 = .ok (.aload_n 0, 1) := by decide +kernel
theorem dX5_add_68 : decode cX5_add 68 = .ok (.iload_n 1, 1) := by decide +kernel
theorem dX5_add_69 : decode cX5_add 69 = .ok (.putfield 25, 3) := by decide +kernel
theorem dX5_add_72 : decode cX5_add 72 = .ok (.aload_n 0, 1) := by decide +kernel
theorem dX5_add_73 : decode cX5_add 73 = .ok (.iload_n 2, 1) := by decide +kernel
theorem dX5_add_74 : decode cX5_add 74 = .ok (.putfield 28, 3) := by decide +kernel
theorem dX5_add_77 : decode cX5_add 77 = .ok (.aload_n 0, 1) := by decide +kernel
theorem dX5_add_78 : decode cX5_add 78 = .ok (.getfield 7, 3) := by decide +kernel
theorem dX5_add_81 : decode cX5_add 81 = .ok (.iconst 1, 1) := by decide +kernel
theorem dX5_add_82 : decode cX5_add 82 = .ok (.if_icmp .ne 8, 3) := by decide +kernel
theorem dX5_add_85 : decode cX5_add 85 = .ok (.aload_n 0, 1) := by decide +kernel
theorem dX5_add_86 : decode cX5_add 86 = .ok (.iload_n 3, 1) := by decide +kernel
theorem dX5_add_87 : decode cX5_add 87 = .ok (.putfield 31, 3) := by decide +kernel
theorem dX5_add_90 : decode cX5_add 90 = .ok (.aload_n 0, 1) := by decide +kernel
theorem dX5_add_91 : decode cX5_add 91 = .ok (.dup, 1) := by decide +kernel
theorem dX5_add_92 : decode cX5_add 92 = .ok (.getfield 13, 3) := by decide +kernel
theorem dX5_add_95 : decode cX5_add 95 = .ok (.iload_n 3, 1) := by decide +kernel
theorem dX5_add_96 : decode cX5_add 96 = .ok (.iload_n 2, 1) := by decide +kernel
theorem dX5_add_97 : decode cX5_add 97 = .ok (.isub, 1) := by decide +kernel
theorem dX5_add_98 : decode cX5_add 98 = .ok (.iadd, 1) := by decide +kernel
theorem dX5_add_99 : decode cX5_add 99 = .ok (.putfield 13, 3) := by decide +kernel
theorem dX5_add_102 : decode cX5_add 102 = .ok (.aload_n 0, 1) := by decide +kernel
theorem dX5_add_103 : decode cX5_add 103 = .ok (.iload_n 1, 1) := by decide +kernel
theorem dX5_add_104 : decode cX5_add 104 = .ok (.putfield 16, 3) := by decide +kernel
theorem dX5_add_107 : decode cX5_add 107 = .ok (.aload_n 0, 1) := by decide +kernel
theorem dX5_add_108 : decode cX5_add 108 = .ok (.iload_n 3, 1) := by decide +kernel
theorem dX5_add_109 : decode cX5_add 109 = .ok (.putfield 19, 3) := by decide +kernel
theorem dX5_add_112 : decode cX5_add 112 = .ok (.aload_n 0, 1) := by decide +kernel
theorem dX5_add_113 : decode cX5_add 113 = .ok (.iload 4, 2) := by decide +kernel
theorem dX5_add_115 : decode cX5_add 115 = .ok (.putfield 22, 3) := by decide +kernel
theorem dX5_add_118 : decode cX5_add 118 = .ok (.return_, 1) := by decide +kernel
theorem dX6_init_0 : decode cX6_init 0 = .ok (.aload_n 0, 1) := by decide +kernel
theorem dX6_init_1 : decode cX6_init 1 = .ok (.invokespecial 3, 3) := by decide +kernel
theorem dX6_init_4 : decode cX6_init 4 = .ok (.aload_n 0, 1) := by decide +kernel
theorem dX6_init_5 : decode cX6_init 5 = .ok (.bipush 120, 2) := by decide +kernel
theorem dX6_init_7 : decode cX6_init 7 = .ok (.newarray .int, 2) := by decide +kernel
theorem dX6_init_9 : decode cX6_init 9 = .ok (.putfield 11, 3) := by decide +kernel
theorem dX6_init_12 : decode cX6_init 12 = .ok (.return_, 1) := by decide +kernel
theorem dX6_clear_0 : decode cX6_clear 0 = .ok (.aload_n 0, 1) := by decide +kernel
theorem dX6_clear_1 : decode cX6_clear 1 = .ok (.iconst 0, 1) := by decide +kernel
theorem dX6_clear_2 : decode cX6_clear 2 = .ok (.putfield 15, 3) := by decide +kernel
theorem dX6_clear_5 : decode cX6_clear 5 = .ok (.return_, 1) := by decide +kernel
theorem dX6_copyOf_0 : decode cX6_copyOf 0 = .ok (.aload_n 1, 1) := by decide +kernel
theorem dX6_copyOf_1 : decode cX6_copyOf 1 = .ok (.getfield 11, 3) := by decide +kernel
theorem dX6_copyOf_4 : decode cX6_copyOf 4 = .ok (.iconst 0, 1) := by decide +kernel
theorem dX6_copyOf_5 : decode cX6_copyOf 5 = .ok (.aload_n 0, 1) := by decide +kernel
theorem dX6_copyOf_6 : decode cX6_copyOf 6 = .ok (.getfield 11, 3) := by decide +kernel
theorem dX6_copyOf_9 : decode cX6_copyOf 9 = .ok (.iconst 0, 1) := by decide +kernel
theorem dX6_copyOf_10 : decode cX6_copyOf 10 = .ok (.aload_n 0, 1) := by decide +kernel
theorem dX6_copyOf_11 : decode cX6_copyOf 11 = .ok (.getfield 11, 3) := by decide +kernel
theorem dX6_copyOf_14 : decode cX6_copyOf 14 = .ok (.arraylength, 1) := by decide +kernel
theorem dX6_copyOf_15 : decode cX6_copyOf 15 = .ok (.invokestatic 19, 3) := by decide +kernel
theorem dX6_copyOf_18 : decode cX6_copyOf 18 = .ok (.aload_n 0, 1) := by decide +kernel
theorem dX6_copyOf_19 : decode cX6_copyOf 19 = .ok (.aload_n 1, 1) := by decide +kernel
theorem dX6_copyOf_20 : decode cX6_copyOf 20 = .ok (.getfield 15, 3) := by decide +kernel
theorem dX6_copyOf_23 : decode cX6_copyOf 23 = .ok (.putfield 15, 3) := by decide +kernel
theorem dX6_copyOf_26 : decode cX6_copyOf 26 = .ok (.return_, 1) := by decide +kernel
theorem dX6_has_0 : decode cX6_has 0 = .ok (.iload_n 1, 1) := by decide +kernel
theorem dX6_has_1 : decode cX6_has 1 = .ok (.ifCond .lt 21, 3) := by decide +kernel
theorem dX6_has_4 : decode cX6_has 4 = .ok (.iload_n 1, 1) := by decide +kernel
theorem dX6_has_5 : decode cX6_has 5 = .ok (.aload_n 0, 1) := by decide +kernel
theorem dX6_has_6 : decode cX6_has 6 = .ok (.getfield 15, 3) := by decide +kernel
theorem dX6_has_9 : decode cX6_has 9 = .ok (.if_icmp .ge 13, 3) := by decide +kernel
theorem dX6_has_12 : decode cX6_has 12 = .ok (.iload_n 1, 1) := by decide +kernel
theorem dX6_has_13 : decode cX6_has 13 = .ok (.bipush 24, 2) := by decide +kernel
theorem dX6_has_15 : decode cX6_has 15 = .ok (.if_icmp .ge 7, 3) := by decide +kernel
theorem dX6_has_18 : decode cX6_has 18 = .ok (.iconst 1, 1) := by decide +kernel
theorem dX6_has_19 : decode cX6_has 19 = .ok (.goto 4, 3) := by decide +kernel
theorem dX6_has_22 : decode cX6_has 22 = .ok (.iconst 0, 1) := by decide +kernel
theorem dX6_has_23 : decode cX6_has 23 = .ok (.ireturn, 1) := by decide +kernel
theorem dX6_cell_0 : decode cX6_cell 0 = .ok (.aload_n 0, 1) := by decide +kernel
theorem dX6_cell_1 : decode cX6_cell 1 = .ok (.iload_n 1, 1) := by decide +kernel
theorem dX6_cell_2 : decode cX6_cell 2 = .ok (.invokevirtual 25, 3) := by decide +kernel
theorem dX6_cell_5 : decode cX6_cell 5 = .ok (.ifCond .eq 25, 3) := by decide +kernel
theorem dX6_cell_8 : decode cX6_cell 8 = .ok (.iload_n 2, 1) := by decide +kernel
theorem dX6_cell_9 : decode cX6_cell 9 = .ok (.ifCond .lt 21, 3) := by decide +kernel
theorem dX6_cell_12 : decode cX6_cell 12 = .ok (.iload_n 2, 1) := by decide +kernel
theorem dX6_cell_13 : decode cX6_cell 13 = .ok (.iconst 5, 1) := by decide +kernel
theorem dX6_cell_14 : decode cX6_cell 14 = .ok (.if_icmp .ge 16, 3) := by decide +kernel
theorem dX6_cell_17 : decode cX6_cell 17 = .ok (.aload_n 0, 1) := by decide +kernel
theorem dX6_cell_18 : decode cX6_cell 18 = .ok (.getfield 11, 3) := by decide +kernel
theorem dX6_cell_21 : decode cX6_cell 21 = .ok (.iload_n 1, 1) := by decide +kernel
theorem dX6_cell_22 : decode cX6_cell 22 = .ok (.iconst 5, 1) := by decide +kernel
theorem dX6_cell_23 : decode cX6_cell 23 = .ok (.imul, 1) := by decide +kernel
theorem dX6_cell_24 : decode cX6_cell 24 = .ok (.iload_n 2, 1) := by decide +kernel
theorem dX6_cell_25 : decode cX6_cell 25 = .ok (.iadd, 1) := by decide +kernel
theorem dX6_cell_26 : decode cX6_cell 26 = .ok (.iaload, 1) := by decide +kernel
theorem dX6_cell_27 : decode cX6_cell 27 = .ok (.goto 4, 3) := by decide +kernel
theorem dX6_cell_30 : decode cX6_cell 30 = .ok (.iconst 0, 1) := by decide +kernel
theorem dX6_cell_31 : decode cX6_cell 31 = .ok (.ireturn, 1) := by decide +kernel
theorem dX6_put_0 : decode cX6_put 0 = .ok (.aload_n 0, 1) := by decide +kernel
theorem dX6_put_1 : decode cX6_put 1 = .ok (.iload_n 1, 1) := by decide +kernel
theorem dX6_put_2 : decode cX6_put 2 = .ok (.invokevirtual 25, 3) := by decide +kernel
theorem dX6_put_5 : decode cX6_put 5 = .ok (.ifCond .eq 23, 3) := by decide +kernel
theorem dX6_put_8 : decode cX6_put 8 = .ok (.iload_n 2, 1) := by decide +kernel
theorem dX6_put_9 : decode cX6_put 9 = .ok (.ifCond .lt 19, 3) := by decide +kernel
theorem dX6_put_12 : decode cX6_put 12 = .ok (.iload_n 2, 1) := by decide +kernel
theorem dX6_put_13 : decode cX6_put 13 = .ok (.iconst 5, 1) := by decide +kernel
theorem dX6_put_14 : decode cX6_put 14 = .ok (.if_icmp .ge 14, 3) := by decide +kernel
theorem dX6_put_17 : decode cX6_put 17 = .ok (.aload_n 0, 1) := by decide +kernel
theorem dX6_put_18 : decode cX6_put 18 = .ok (.getfield 11, 3) := by decide +kernel
theorem dX6_put_21 : decode cX6_put 21 = .ok (.iload_n 1, 1) := by decide +kernel
theorem dX6_put_22 : decode cX6_put 22 = .ok (.iconst 5, 1) := by decide +kernel
theorem dX6_put_23 : decode cX6_put 23 = .ok (.imul, 1) := by decide +kernel
theorem dX6_put_24 : decode cX6_put 24 = .ok (.iload_n 2, 1) := by decide +kernel
theorem dX6_put_25 : decode cX6_put 25 = .ok (.iadd, 1) := by decide +kernel
theorem dX6_put_26 : decode cX6_put 26 = .ok (.iload_n 3, 1) := by decide +kernel
theorem dX6_put_27 : decode cX6_put 27 = .ok (.iastore, 1) := by decide +kernel
theorem dX6_put_28 : decode cX6_put 28 = .ok (.return_, 1) := by decide +kernel
theorem dX6_append_0 : decode cX6_append 0 = .ok (.aload_n 0, 1) := by decide +kernel
theorem dX6_append_1 : decode cX6_append 1 = .ok (.getfield 15, 3) := by decide +kernel
theorem dX6_append_4 : decode cX6_append 4 = .ok (.iconst 5, 1) := by decide +kernel
theorem dX6_append_5 : decode cX6_append 5 = .ok (.imul, 1) := by decide +kernel
theorem dX6_append_6 : decode cX6_append 6 = .ok (.istore 6, 2) := by decide +kernel
theorem dX6_append_8 : decode cX6_append 8 = .ok (.aload_n 0, 1) := by decide +kernel
theorem dX6_append_9 : decode cX6_append 9 = .ok (.getfield 15, 3) := by decide +kernel
theorem dX6_append_12 : decode cX6_append 12 = .ok (.ifCond .lt 64, 3) := by decide +kernel
theorem dX6_append_15 : decode cX6_append 15 = .ok (.aload_n 0, 1) := by decide +kernel
theorem dX6_append_16 : decode cX6_append 16 = .ok (.getfield 15, 3) := by decide +kernel
theorem dX6_append_19 : decode cX6_append 19 = .ok (.bipush 24, 2) := by decide +kernel
theorem dX6_append_21 : decode cX6_append 21 = .ok (.if_icmp .ge 55, 3) := by decide +kernel
theorem dX6_append_24 : decode cX6_append 24 = .ok (.aload_n 0, 1) := by decide +kernel
theorem dX6_append_25 : decode cX6_append 25 = .ok (.getfield 11, 3) := by decide +kernel
theorem dX6_append_28 : decode cX6_append 28 = .ok (.iload 6, 2) := by decide +kernel
theorem dX6_append_30 : decode cX6_append 30 = .ok (.iconst 0, 1) := by decide +kernel
theorem dX6_append_31 : decode cX6_append 31 = .ok (.iadd, 1) := by decide +kernel
theorem dX6_append_32 : decode cX6_append 32 = .ok (.iload_n 1, 1) := by decide +kernel
theorem dX6_append_33 : decode cX6_append 33 = .ok (.iastore, 1) := by decide +kernel
theorem dX6_append_34 : decode cX6_append 34 = .ok (.aload_n 0, 1) := by decide +kernel
theorem dX6_append_35 : decode cX6_append 35 = .ok (.getfield 11, 3) := by decide +kernel
theorem dX6_append_38 : decode cX6_append 38 = .ok (.iload 6, 2) := by decide +kernel
theorem dX6_append_40 : decode cX6_append 40 = .ok (.iconst 1, 1) := by decide +kernel
theorem dX6_append_41 : decode cX6_append 41 = .ok (.iadd, 1) := by decide +kernel
theorem dX6_append_42 : decode cX6_append 42 = .ok (.iload_n 2, 1) := by decide +kernel
theorem dX6_append_43 : decode cX6_append 43 = .ok (.iastore, 1) := by decide +kernel
theorem dX6_append_44 : decode cX6_append 44 = .ok (.aload_n 0, 1) := by decide +kernel
theorem dX6_append_45 : decode cX6_append 45 = .ok (.getfield 11, 3) := by decide +kernel
theorem dX6_append_48 : decode cX6_append 48 = .ok (.iload 6, 2) := by decide +kernel
theorem dX6_append_50 : decode cX6_append 50 = .ok (.iconst 2, 1) := by decide +kernel
theorem dX6_append_51 : decode cX6_append 51 = .ok (.iadd, 1) := by decide +kernel
theorem dX6_append_52 : decode cX6_append 52 = .ok (.iload_n 3, 1) := by decide +kernel
theorem dX6_append_53 : decode cX6_append 53 = .ok (.iastore, 1) := by decide +kernel
theorem dX6_append_54 : decode cX6_append 54 = .ok (.aload_n 0, 1) := by decide +kernel
theorem dX6_append_55 : decode cX6_append 55 = .ok (.getfield 11, 3) := by decide +kernel
theorem dX6_append_58 : decode cX6_append 58 = .ok (.iload 6, 2) := by decide +kernel
theorem dX6_append_60 : decode cX6_append 60 = .ok (.iconst 3, 1) := by decide +kernel
theorem dX6_append_61 : decode cX6_append 61 = .ok (.iadd, 1) := by decide +kernel
theorem dX6_append_62 : decode cX6_append 62 = .ok (.iload 4, 2) := by decide +kernel
theorem dX6_append_64 : decode cX6_append 64 = .ok (.iastore, 1) := by decide +kernel
theorem dX6_append_65 : decode cX6_append 65 = .ok (.aload_n 0, 1) := by decide +kernel
theorem dX6_append_66 : decode cX6_append 66 = .ok (.getfield 11, 3) := by decide +kernel
theorem dX6_append_69 : decode cX6_append 69 = .ok (.iload 6, 2) := by decide +kernel
theorem dX6_append_71 : decode cX6_append 71 = .ok (.iconst 4, 1) := by decide +kernel
theorem dX6_append_72 : decode cX6_append 72 = .ok (.iadd, 1) := by decide +kernel
theorem dX6_append_73 : decode cX6_append 73 = .ok (.iload 5, 2) := by decide +kernel
theorem dX6_append_75 : decode cX6_append 75 = .ok (.iastore, 1) := by decide +kernel
theorem dX6_append_76 : decode cX6_append 76 = .ok (.aload_n 0, 1) := by decide +kernel
theorem dX6_append_77 : decode cX6_append 77 = .ok (.dup, 1) := by decide +kernel
theorem dX6_append_78 : decode cX6_append 78 = .ok (.getfield 15, 3) := by decide +kernel
theorem dX6_append_81 : decode cX6_append 81 = .ok (.iconst 1, 1) := by decide +kernel
theorem dX6_append_82 : decode cX6_append 82 = .ok (.iadd, 1) := by decide +kernel
theorem dX6_append_83 : decode cX6_append 83 = .ok (.putfield 15, 3) := by decide +kernel
theorem dX6_append_86 : decode cX6_append 86 = .ok (.return_, 1) := by decide +kernel
theorem dX6_appendPart_0 : decode cX6_appendPart 0 = .ok (.iload_n 3, 1) := by decide +kernel
theorem dX6_appendPart_1 : decode cX6_appendPart 1 = .ok (.aload_n 1, 1) := by decide +kernel
theorem dX6_appendPart_2 : decode cX6_appendPart 2 = .ok (.iload_n 2, 1) := by decide +kernel
theorem dX6_appendPart_3 : decode cX6_appendPart 3 = .ok (.iconst 2, 1) := by decide +kernel
theorem dX6_appendPart_4 : decode cX6_appendPart 4 = .ok (.invokevirtual 29, 3) := by decide +kernel
theorem dX6_appendPart_7 : decode cX6_appendPart 7 = .ok (.invokestatic 33, 3) := by decide +kernel
theorem dX6_appendPart_10 : decode cX6_appendPart 10 = .ok (.istore 5, 2) := by decide +kernel
theorem dX6_appendPart_12 : decode cX6_appendPart 12 = .ok (.iload 4, 2) := by decide +kernel
theorem dX6_appendPart_14 : decode cX6_appendPart 14 = .ok (.aload_n 1, 1) := by decide +kernel
theorem dX6_appendPart_15 : decode cX6_appendPart 15 = .ok (.iload_n 2, 1) := by decide +kernel
theorem dX6_appendPart_16 : decode cX6_appendPart 16 = .ok (.iconst 3, 1) := by decide +kernel
theorem dX6_appendPart_17 : decode cX6_appendPart 17 = .ok (.invokevirtual 29, 3) := by decide +kernel
theorem dX6_appendPart_20 : decode cX6_appendPart 20 = .ok (.invokestatic 38, 3) := by decide +kernel
theorem dX6_appendPart_23 : decode cX6_appendPart 23 = .ok (.istore 6, 2) := by decide +kernel
theorem dX6_appendPart_25 : decode cX6_appendPart 25 = .ok (.iload 5, 2) := by decide +kernel
theorem dX6_appendPart_27 : decode cX6_appendPart 27 = .ok (.iload 6, 2) := by decide +kernel
theorem dX6_appendPart_29 : decode cX6_appendPart 29 = .ok (.if_icmp .ge 29, 3) := by decide +kernel
theorem dX6_appendPart_32 : decode cX6_appendPart 32 = .ok (.aload_n 0, 1) := by decide +kernel
theorem dX6_appendPart_33 : decode cX6_appendPart 33 = .ok (.aload_n 1, 1) := by decide +kernel
theorem dX6_appendPart_34 : decode cX6_appendPart 34 = .ok (.iload_n 2, 1) := by decide +kernel
theorem dX6_appendPart_35 : decode cX6_appendPart 35 = .ok (.iconst 0, 1) := by decide +kernel
theorem dX6_appendPart_36 : decode cX6_appendPart 36 = .ok (.invokevirtual 29, 3) := by decide +kernel
theorem dX6_appendPart_39 : decode cX6_appendPart 39 = .ok (.aload_n 1, 1) := by decide +kernel
theorem dX6_appendPart_40 : decode cX6_appendPart 40 = .ok (.iload_n 2, 1) := by decide +kernel
theorem dX6_appendPart_41 : decode cX6_appendPart 41 = .ok (.iconst 1, 1) := by decide +kernel
theorem dX6_appendPart_42 : decode cX6_appendPart 42 = .ok (.invokevirtual 29, 3) := by decide +kernel
theorem dX6_appendPart_45 : decode cX6_appendPart 45 = .ok (.iload 5, 2) := by decide +kernel
theorem dX6_appendPart_47 : decode cX6_appendPart 47 = .ok (.iload 6, 2) := by decide +kernel
theorem dX6_appendPart_49 : decode cX6_appendPart 49 = .ok (.aload_n 1, 1) := by decide +kernel
theorem dX6_appendPart_50 : decode cX6_appendPart 50 = .ok (.iload_n 2, 1) := by decide +kernel
theorem dX6_appendPart_51 : decode cX6_appendPart 51 = .ok (.iconst 4, 1) := by decide +kernel
theorem dX6_appendPart_52 : decode cX6_appendPart 52 = .ok (.invokevirtual 29, 3) := by decide +kernel
theorem dX6_appendPart_55 : decode cX6_appendPart 55 = .ok (.invokevirtual 41, 3) := by decide +kernel
theorem dX6_appendPart_58 : decode cX6_appendPart 58 = .ok (.return_, 1) := by decide +kernel
theorem dX6_changeLast_0 : decode cX6_changeLast 0 = .ok (.aload_n 0, 1) := by decide +kernel
theorem dX6_changeLast_1 : decode cX6_changeLast 1 = .ok (.aload_n 0, 1) := by decide +kernel
theorem dX6_changeLast_2 : decode cX6_changeLast 2 = .ok (.getfield 15, 3) := by decide +kernel
theorem dX6_changeLast_5 : decode cX6_changeLast 5 = .ok (.iconst 1, 1) := by decide +kernel
theorem dX6_changeLast_6 : decode cX6_changeLast 6 = .ok (.isub, 1) := by decide +kernel
theorem dX6_changeLast_7 : decode cX6_changeLast 7 = .ok (.iload_n 1, 1) := by decide +kernel
theorem dX6_changeLast_8 : decode cX6_changeLast 8 = .ok (.iload_n 2, 1) := by decide +kernel
theorem dX6_changeLast_9 : decode cX6_changeLast 9 = .ok (.invokevirtual 45, 3) := by decide +kernel
theorem dX6_changeLast_12 : decode cX6_changeLast 12 = .ok (.return_, 1) := by decide +kernel
theorem dX6_fillChanged_0 : decode cX6_fillChanged 0 = .ok (.aload_n 0, 1) := by decide +kernel
theorem dX6_fillChanged_1 : decode cX6_fillChanged 1 = .ok (.invokevirtual 49, 3) := by decide +kernel
theorem dX6_fillChanged_4 : decode cX6_fillChanged 4 = .ok (.iconst 0, 1) := by decide +kernel
theorem dX6_fillChanged_5 : decode cX6_fillChanged 5 = .ok (.istore 7, 2) := by decide +kernel
theorem dX6_fillChanged_7 : decode cX6_fillChanged 7 = .ok (.iload 7, 2) := by decide +kernel
theorem dX6_fillChanged_9 : decode cX6_fillChanged 9 = .ok (.aload_n 1, 1) := by decide +kernel
theorem dX6_fillChanged_10 : decode cX6_fillChanged 10 = .ok (.getfield 15, 3) := by decide +kernel
theorem dX6_fillChanged_13 : decode cX6_fillChanged 13 = .ok (.if_icmp .ge 86, 3) := by decide +kernel
theorem dX6_fillChanged_16 : decode cX6_fillChanged 16 = .ok (.aload_n 1, 1) := by decide +kernel
theorem dX6_fillChanged_17 : decode cX6_fillChanged 17 = .ok (.iload 7, 2) := by decide +kernel
theorem dX6_fillChanged_19 : decode cX6_fillChanged 19 = .ok (.iload_n 2, 1) := by decide +kernel
theorem dX6_fillChanged_20 : decode cX6_fillChanged 20 = .ok (.iload_n 3, 1) := by decide +kernel
theorem dX6_fillChanged_21 : decode cX6_fillChanged 21 = .ok (.iload 4, 2) := by decide +kernel
theorem dX6_fillChanged_23 : decode cX6_fillChanged 23 = .ok (.invokevirtual 52, 3) := by decide +kernel
theorem dX6_fillChanged_26 : decode cX6_fillChanged 26 = .ok (.ifCond .eq 57, 3) := by decide +kernel
theorem dX6_fillChanged_29 : decode cX6_fillChanged 29 = .ok (.aload_n 1, 1) := by decide +kernel
theorem dX6_fillChanged_30 : decode cX6_fillChanged 30 = .ok (.iload 7, 2) := by decide +kernel
theorem dX6_fillChanged_32 : decode cX6_fillChanged 32 = .ok (.iload 5, 2) := by decide +kernel
theorem dX6_fillChanged_34 : decode cX6_fillChanged 34 = .ok (.invokevirtual 29, 3) := by decide +kernel
theorem dX6_fillChanged_37 : decode cX6_fillChanged 37 = .ok (.iload 6, 2) := by decide +kernel
theorem dX6_fillChanged_39 : decode cX6_fillChanged 39 = .ok (.if_icmp .eq 44, 3) := by decide +kernel
theorem dX6_fillChanged_42 : decode cX6_fillChanged 42 = .ok (.aload_n 0, 1) := by decide +kernel
theorem dX6_fillChanged_43 : decode cX6_fillChanged 43 = .ok (.aload_n 1, 1) := by decide +kernel
theorem dX6_fillChanged_44 : decode cX6_fillChanged 44 = .ok (.iload 7, 2) := by decide +kernel
theorem dX6_fillChanged_46 : decode cX6_fillChanged 46 = .ok (.iconst 0, 1) := by decide +kernel
theorem dX6_fillChanged_47 : decode cX6_fillChanged 47 = .ok (.iload_n 3, 1) := by decide +kernel
theorem dX6_fillChanged_48 : decode cX6_fillChanged 48 = .ok (.invokevirtual 56, 3) := by decide +kernel
theorem dX6_fillChanged_51 : decode cX6_fillChanged 51 = .ok (.aload_n 0, 1) := by decide +kernel
theorem dX6_fillChanged_52 : decode cX6_fillChanged 52 = .ok (.aload_n 1, 1) := by decide +kernel
theorem dX6_fillChanged_53 : decode cX6_fillChanged 53 = .ok (.iload 7, 2) := by decide +kernel
theorem dX6_fillChanged_55 : decode cX6_fillChanged 55 = .ok (.iload_n 3, 1) := by decide +kernel
theorem dX6_fillChanged_56 : decode cX6_fillChanged 56 = .ok (.iload 4, 2) := by decide +kernel
theorem dX6_fillChanged_58 : decode cX6_fillChanged 58 = .ok (.invokevirtual 56, 3) := by decide +kernel
theorem dX6_fillChanged_61 : decode cX6_fillChanged 61 = .ok (.aload_n 0, 1) := by decide +kernel
theorem dX6_fillChanged_62 : decode cX6_fillChanged 62 = .ok (.iload 5, 2) := by decide +kernel
theorem dX6_fillChanged_64 : decode cX6_fillChanged 64 = .ok (.iload 6, 2) := by decide +kernel
theorem dX6_fillChanged_66 : decode cX6_fillChanged 66 = .ok (.invokevirtual 60, 3) := by decide +kernel
theorem dX6_fillChanged_69 : decode cX6_fillChanged 69 = .ok (.aload_n 0, 1) := by decide +kernel
theorem dX6_fillChanged_70 : decode cX6_fillChanged 70 = .ok (.aload_n 1, 1) := by decide +kernel
theorem dX6_fillChanged_71 : decode cX6_fillChanged 71 = .ok (.iload 7, 2) := by decide +kernel
theorem dX6_fillChanged_73 : decode cX6_fillChanged 73 = .ok (.iload 4, 2) := by decide +kernel
theorem dX6_fillChanged_75 : decode cX6_fillChanged 75 = .ok (.bipush 100, 2) := by decide +kernel
theorem dX6_fillChanged_77 : decode cX6_fillChanged 77 = .ok (.invokevirtual 56, 3) := by decide +kernel
theorem dX6_fillChanged_80 : decode cX6_fillChanged 80 = .ok (.goto 13, 3) := by decide +kernel
theorem dX6_fillChanged_83 : decode cX6_fillChanged 83 = .ok (.aload_n 0, 1) := by decide +kernel
theorem dX6_fillChanged_84 : decode cX6_fillChanged 84 = .ok (.aload_n 1, 1) := by decide +kernel
theorem dX6_fillChanged_85 : decode cX6_fillChanged 85 = .ok (.iload 7, 2) := by decide +kernel
theorem dX6_fillChanged_87 : decode cX6_fillChanged 87 = .ok (.iconst 0, 1) := by decide +kernel
theorem dX6_fillChanged_88 : decode cX6_fillChanged 88 = .ok (.bipush 100, 2) := by decide +kernel
theorem dX6_fillChanged_90 : decode cX6_fillChanged 90 = .ok (.invokevirtual 56, 3) := by decide +kernel
theorem dX6_fillChanged_93 : decode cX6_fillChanged 93 = .ok (.iinc 7 1, 3) := by decide +kernel
theorem dX6_fillChanged_96 : decode cX6_fillChanged 96 = .ok (.goto (-89), 3) := by decide +kernel
theorem dX6_fillChanged_99 : decode cX6_fillChanged 99 = .ok (.return_, 1) := by decide +kernel
theorem dX6_fillCut_0 : decode cX6_fillCut 0 = .ok (.aload_n 0, 1) := by decide +kernel
theorem dX6_fillCut_1 : decode cX6_fillCut 1 = .ok (.invokevirtual 49, 3) := by decide +kernel
theorem dX6_fillCut_4 : decode cX6_fillCut 4 = .ok (.iconst 0, 1) := by decide +kernel
theorem dX6_fillCut_5 : decode cX6_fillCut 5 = .ok (.istore 5, 2) := by decide +kernel
theorem dX6_fillCut_7 : decode cX6_fillCut 7 = .ok (.iload 5, 2) := by decide +kernel
theorem dX6_fillCut_9 : decode cX6_fillCut 9 = .ok (.aload_n 1, 1) := by decide +kernel
theorem dX6_fillCut_10 : decode cX6_fillCut 10 = .ok (.getfield 15, 3) := by decide +kernel
theorem dX6_fillCut_13 : decode cX6_fillCut 13 = .ok (.if_icmp .ge 53, 3) := by decide +kernel
theorem dX6_fillCut_16 : decode cX6_fillCut 16 = .ok (.aload_n 1, 1) := by decide +kernel
theorem dX6_fillCut_17 : decode cX6_fillCut 17 = .ok (.iload 5, 2) := by decide +kernel
theorem dX6_fillCut_19 : decode cX6_fillCut 19 = .ok (.iconst 0, 1) := by decide +kernel
theorem dX6_fillCut_20 : decode cX6_fillCut 20 = .ok (.invokevirtual 29, 3) := by decide +kernel
theorem dX6_fillCut_23 : decode cX6_fillCut 23 = .ok (.iload_n 2, 1) := by decide +kernel
theorem dX6_fillCut_24 : decode cX6_fillCut 24 = .ok (.if_icmp .ne 26, 3) := by decide +kernel
theorem dX6_fillCut_27 : decode cX6_fillCut 27 = .ok (.aload_n 0, 1) := by decide +kernel
theorem dX6_fillCut_28 : decode cX6_fillCut 28 = .ok (.aload_n 1, 1) := by decide +kernel
theorem dX6_fillCut_29 : decode cX6_fillCut 29 = .ok (.iload 5, 2) := by decide +kernel
theorem dX6_fillCut_31 : decode cX6_fillCut 31 = .ok (.iconst 0, 1) := by decide +kernel
theorem dX6_fillCut_32 : decode cX6_fillCut 32 = .ok (.iload_n 3, 1) := by decide +kernel
theorem dX6_fillCut_33 : decode cX6_fillCut 33 = .ok (.invokevirtual 56, 3) := by decide +kernel
theorem dX6_fillCut_36 : decode cX6_fillCut 36 = .ok (.aload_n 0, 1) := by decide +kernel
theorem dX6_fillCut_37 : decode cX6_fillCut 37 = .ok (.aload_n 1, 1) := by decide +kernel
theorem dX6_fillCut_38 : decode cX6_fillCut 38 = .ok (.iload 5, 2) := by decide +kernel
theorem dX6_fillCut_40 : decode cX6_fillCut 40 = .ok (.iload 4, 2) := by decide +kernel
theorem dX6_fillCut_42 : decode cX6_fillCut 42 = .ok (.bipush 100, 2) := by decide +kernel
theorem dX6_fillCut_44 : decode cX6_fillCut 44 = .ok (.invokevirtual 56, 3) := by decide +kernel
theorem dX6_fillCut_47 : decode cX6_fillCut 47 = .ok (.goto 13, 3) := by decide +kernel
theorem dX6_fillCut_50 : decode cX6_fillCut 50 = .ok (.aload_n 0, 1) := by decide +kernel
theorem dX6_fillCut_51 : decode cX6_fillCut 51 = .ok (.aload_n 1, 1) := by decide +kernel
theorem dX6_fillCut_52 : decode cX6_fillCut 52 = .ok (.iload 5, 2) := by decide +kernel
theorem dX6_fillCut_54 : decode cX6_fillCut 54 = .ok (.iconst 0, 1) := by decide +kernel
theorem dX6_fillCut_55 : decode cX6_fillCut 55 = .ok (.bipush 100, 2) := by decide +kernel
theorem dX6_fillCut_57 : decode cX6_fillCut 57 = .ok (.invokevirtual 56, 3) := by decide +kernel
theorem dX6_fillCut_60 : decode cX6_fillCut 60 = .ok (.iinc 5 1, 3) := by decide +kernel
theorem dX6_fillCut_63 : decode cX6_fillCut 63 = .ok (.goto (-56), 3) := by decide +kernel
theorem dX6_fillCut_66 : decode cX6_fillCut 66 = .ok (.return_, 1) := by decide +kernel
theorem dX6_fillJoined_0 : decode cX6_fillJoined 0 = .ok (.aload_n 0, 1) := by decide +kernel
theorem dX6_fillJoined_1 : decode cX6_fillJoined 1 = .ok (.invokevirtual 49, 3) := by decide +kernel
theorem dX6_fillJoined_4 : decode cX6_fillJoined 4 = .ok (.iconst 0, 1) := by decide +kernel
theorem dX6_fillJoined_5 : decode cX6_fillJoined 5 = .ok (.istore_n 2, 1) := by decide +kernel
theorem dX6_fillJoined_6 : decode cX6_fillJoined 6 = .ok (.iload_n 2, 1) := by decide +kernel
theorem dX6_fillJoined_7 : decode cX6_fillJoined 7 = .ok (.aload_n 1, 1) := by decide +kernel
theorem dX6_fillJoined_8 : decode cX6_fillJoined 8 = .ok (.getfield 15, 3) := by decide +kernel
theorem dX6_fillJoined_11 : decode cX6_fillJoined 11 = .ok (.if_icmp .ge 40, 3) := by decide +kernel
theorem dX6_fillJoined_14 : decode cX6_fillJoined 14 = .ok (.aload_n 1, 1) := by decide +kernel
theorem dX6_fillJoined_15 : decode cX6_fillJoined 15 = .ok (.iload_n 2, 1) := by decide +kernel
theorem dX6_fillJoined_16 : decode cX6_fillJoined 16 = .ok (.invokevirtual 64, 3) := by decide +kernel
theorem dX6_fillJoined_19 : decode cX6_fillJoined 19 = .ok (.ifCond .eq 17, 3) := by decide +kernel
theorem dX6_fillJoined_22 : decode cX6_fillJoined 22 = .ok (.aload_n 0, 1) := by decide +kernel
theorem dX6_fillJoined_23 : decode cX6_fillJoined 23 = .ok (.iconst 3, 1) := by decide +kernel
theorem dX6_fillJoined_24 : decode cX6_fillJoined 24 = .ok (.aload_n 1, 1) := by decide +kernel
theorem dX6_fillJoined_25 : decode cX6_fillJoined 25 = .ok (.iload_n 2, 1) := by decide +kernel
theorem dX6_fillJoined_26 : decode cX6_fillJoined 26 = .ok (.iconst 3, 1) := by decide +kernel
theorem dX6_fillJoined_27 : decode cX6_fillJoined 27 = .ok (.invokevirtual 29, 3) := by decide +kernel
theorem dX6_fillJoined_30 : decode cX6_fillJoined 30 = .ok (.invokevirtual 60, 3) := by decide +kernel
theorem dX6_fillJoined_33 : decode cX6_fillJoined 33 = .ok (.goto 12, 3) := by decide +kernel
theorem dX6_fillJoined_36 : decode cX6_fillJoined 36 = .ok (.aload_n 0, 1) := by decide +kernel
theorem dX6_fillJoined_37 : decode cX6_fillJoined 37 = .ok (.aload_n 1, 1) := by decide +kernel
theorem dX6_fillJoined_38 : decode cX6_fillJoined 38 = .ok (.iload_n 2, 1) := by decide +kernel
theorem dX6_fillJoined_39 : decode cX6_fillJoined 39 = .ok (.iconst 0, 1) := by decide +kernel
theorem dX6_fillJoined_40 : decode cX6_fillJoined 40 = .ok (.bipush 100, 2) := by decide +kernel
theorem dX6_fillJoined_42 : decode cX6_fillJoined 42 = .ok (.invokevirtual 56, 3) := by decide +kernel
theorem dX6_fillJoined_45 : decode cX6_fillJoined 45 = .ok (.iinc 2 1, 3) := by decide +kernel
theorem dX6_fillJoined_48 : decode cX6_fillJoined 48 = .ok (.goto (-42), 3) := by decide +kernel
theorem dX6_fillJoined_51 : decode cX6_fillJoined 51 = .ok (.return_, 1) := by decide +kernel
theorem dX6_shiftRows_0 : decode cX6_shiftRows 0 = .ok (.iconst 1, 1) := by decide +kernel
theorem dX6_shiftRows_1 : decode cX6_shiftRows 1 = .ok (.istore_n 3, 1) := by decide +kernel
theorem dX6_shiftRows_2 : decode cX6_shiftRows 2 = .ok (.iconst 0, 1) := by decide +kernel
theorem dX6_shiftRows_3 : decode cX6_shiftRows 3 = .ok (.istore 4, 2) := by decide +kernel
theorem dX6_shiftRows_5 : decode cX6_shiftRows 5 = .ok (.iload 4, 2) := by decide +kernel
theorem dX6_shiftRows_7 : decode cX6_shiftRows 7 = .ok (.aload_n 0, 1) := by decide +kernel
theorem dX6_shiftRows_8 : decode cX6_shiftRows 8 = .ok (.getfield 15, 3) := by decide +kernel
theorem dX6_shiftRows_11 : decode cX6_shiftRows 11 = .ok (.if_icmp .ge 82, 3) := by decide +kernel
theorem dX6_shiftRows_14 : decode cX6_shiftRows 14 = .ok (.aload_n 0, 1) := by decide +kernel
theorem dX6_shiftRows_15 : decode cX6_shiftRows 15 = .ok (.iload 4, 2) := by decide +kernel
theorem dX6_shiftRows_17 : decode cX6_shiftRows 17 = .ok (.iconst 0, 1) := by decide +kernel
theorem dX6_shiftRows_18 : decode cX6_shiftRows 18 = .ok (.invokevirtual 29, 3) := by decide +kernel
theorem dX6_shiftRows_21 : decode cX6_shiftRows 21 = .ok (.iload_n 1, 1) := by decide +kernel
theorem dX6_shiftRows_22 : decode cX6_shiftRows 22 = .ok (.if_icmp .ne 65, 3) := by decide +kernel
theorem dX6_shiftRows_25 : decode cX6_shiftRows 25 = .ok (.aload_n 0, 1) := by decide +kernel
theorem dX6_shiftRows_26 : decode cX6_shiftRows 26 = .ok (.iload 4, 2) := by decide +kernel
theorem dX6_shiftRows_28 : decode cX6_shiftRows 28 = .ok (.iconst 2, 1) := by decide +kernel
theorem dX6_shiftRows_29 : decode cX6_shiftRows 29 = .ok (.aload_n 0, 1) := by decide +kernel
theorem dX6_shiftRows_30 : decode cX6_shiftRows 30 = .ok (.iload 4, 2) := by decide +kernel
theorem dX6_shiftRows_32 : decode cX6_shiftRows 32 = .ok (.iconst 2, 1) := by decide +kernel
theorem dX6_shiftRows_33 : decode cX6_shiftRows 33 = .ok (.invokevirtual 29, 3) := by decide +kernel
theorem dX6_shiftRows_36 : decode cX6_shiftRows 36 = .ok (.iload_n 2, 1) := by decide +kernel
theorem dX6_shiftRows_37 : decode cX6_shiftRows 37 = .ok (.iadd, 1) := by decide +kernel
theorem dX6_shiftRows_38 : decode cX6_shiftRows 38 = .ok (.invokevirtual 45, 3) := by decide +kernel
theorem dX6_shiftRows_41 : decode cX6_shiftRows 41 = .ok (.aload_n 0, 1) := by decide +kernel
theorem dX6_shiftRows_42 : decode cX6_shiftRows 42 = .ok (.iload 4, 2) := by decide +kernel
theorem dX6_shiftRows_44 : decode cX6_shiftRows 44 = .ok (.iconst 3, 1) := by decide +kernel
theorem dX6_shiftRows_45 : decode cX6_shiftRows 45 = .ok (.aload_n 0, 1) := by decide +kernel
theorem dX6_shiftRows_46 : decode cX6_shiftRows 46 = .ok (.iload 4, 2) := by decide +kernel
theorem dX6_shiftRows_48 : decode cX6_shiftRows 48 = .ok (.iconst 3, 1) := by decide +kernel
theorem dX6_shiftRows_49 : decode cX6_shiftRows 49 = .ok (.invokevirtual 29, 3) := by decide +kernel
theorem dX6_shiftRows_52 : decode cX6_shiftRows 52 = .ok (.iload_n 2, 1) := by decide +kernel
theorem dX6_shiftRows_53 : decode cX6_shiftRows 53 = .ok (.iadd, 1) := by decide +kernel
theorem dX6_shiftRows_54 : decode cX6_shiftRows 54 = .ok (.invokevirtual 45, 3) := by decide +kernel
theorem dX6_shiftRows_57 : decode cX6_shiftRows 57 = .ok (.iload_n 3, 1) := by decide +kernel
theorem dX6_shiftRows_58 : decode cX6_shiftRows 58 = .ok (.ifCond .eq 27, 3) := by decide +kernel
theorem dX6_shiftRows_61 : decode cX6_shiftRows 61 = .ok (.aload_n 0, 1) := by decide +kernel
theorem dX6_shiftRows_62 : decode cX6_shiftRows 62 = .ok (.iload 4, 2) := by decide +kernel
theorem dX6_shiftRows_64 : decode cX6_shiftRows 64 = .ok (.iconst 2, 1) := by decide +kernel
theorem dX6_shiftRows_65 : decode cX6_shiftRows 65 = .ok (.invokevirtual 29, 3) := by decide +kernel
theorem dX6_shiftRows_68 : decode cX6_shiftRows 68 = .ok (.aload_n 0, 1) := by decide +kernel
theorem dX6_shiftRows_69 : decode cX6_shiftRows 69 = .ok (.iload 4, 2) := by decide +kernel
theorem dX6_shiftRows_71 : decode cX6_shiftRows 71 = .ok (.iconst 3, 1) := by decide +kernel
theorem dX6_shiftRows_72 : decode cX6_shiftRows 72 = .ok (.invokevirtual 29, 3) := by decide +kernel
theorem dX6_shiftRows_75 : decode cX6_shiftRows 75 = .ok (.invokestatic 67, 3) := by decide +kernel
theorem dX6_shiftRows_78 : decode cX6_shiftRows 78 = .ok (.ifCond .eq 7, 3) := by decide +kernel
theorem dX6_shiftRows_81 : decode cX6_shiftRows 81 = .ok (.iconst 1, 1) := by decide +kernel
theorem dX6_shiftRows_82 : decode cX6_shiftRows 82 = .ok (.goto 4, 3) := by decide +kernel
theorem dX6_shiftRows_85 : decode cX6_shiftRows 85 = .ok (.iconst 0, 1) := by decide +kernel
theorem dX6_shiftRows_86 : decode cX6_shiftRows 86 = .ok (.istore_n 3, 1) := by decide +kernel
theorem dX6_shiftRows_87 : decode cX6_shiftRows 87 = .ok (.iinc 4 1, 3) := by decide +kernel
theorem dX6_shiftRows_90 : decode cX6_shiftRows 90 = .ok (.goto (-85), 3) := by decide +kernel
theorem dX6_shiftRows_93 : decode cX6_shiftRows 93 = .ok (.iload_n 3, 1) := by decide +kernel
theorem dX6_shiftRows_94 : decode cX6_shiftRows 94 = .ok (.ireturn, 1) := by decide +kernel
theorem dX6_daysOfRow_0 : decode cX6_daysOfRow 0 = .ok (.aload_n 0, 1) := by decide +kernel
theorem dX6_daysOfRow_1 : decode cX6_daysOfRow 1 = .ok (.iload_n 1, 1) := by decide +kernel
theorem dX6_daysOfRow_2 : decode cX6_daysOfRow 2 = .ok (.iconst 3, 1) := by decide +kernel
theorem dX6_daysOfRow_3 : decode cX6_daysOfRow 3 = .ok (.invokevirtual 29, 3) := by decide +kernel
theorem dX6_daysOfRow_6 : decode cX6_daysOfRow 6 = .ok (.aload_n 0, 1) := by decide +kernel
theorem dX6_daysOfRow_7 : decode cX6_daysOfRow 7 = .ok (.iload_n 1, 1) := by decide +kernel
