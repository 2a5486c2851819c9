theorem dX9_sums_16 : decode cX9_sums 16 = .ok (.ireturn, 1) := by decide +kernel
theorem dX9_sums_17 : decode cX9_sums 17 = .ok (.aload_n 0, 1) := by decide +kernel
theorem dX9_sums_18 : decode cX9_sums 18 = .ok (.getfield 10, 3) := by decide +kernel
theorem dX9_sums_21 : decode cX9_sums 21 = .ok (.iload_n 1, 1) := by decide +kernel
theorem dX9_sums_22 : decode cX9_sums 22 = .ok (.invokevirtual 86, 3) := by decide +kernel
theorem dX9_sums_25 : decode cX9_sums 25 = .ok (.astore 4, 2) := by decide +kernel
theorem dX9_sums_27 : decode cX9_sums 27 = .ok (.aload_n 0, 1) := by decide +kernel
theorem dX9_sums_28 : decode cX9_sums 28 = .ok (.getfield 54, 3) := by decide +kernel
theorem dX9_sums_31 : decode cX9_sums 31 = .ok (.invokevirtual 251, 3) := by decide +kernel
theorem dX9_sums_34 : decode cX9_sums 34 = .ok (.iconst 0, 1) := by decide +kernel
theorem dX9_sums_35 : decode cX9_sums 35 = .ok (.istore 5, 2) := by decide +kernel
theorem dX9_sums_37 : decode cX9_sums 37 = .ok (.iload 5, 2) := by decide +kernel
theorem dX9_sums_39 : decode cX9_sums 39 = .ok (.aload 4, 2) := by decide +kernel
theorem dX9_sums_41 : decode cX9_sums 41 = .ok (.getfield 106, 3) := by decide +kernel
theorem dX9_sums_44 : decode cX9_sums 44 = .ok (.if_icmp .ge 40, 3) := by decide +kernel
theorem dX9_sums_47 : decode cX9_sums 47 = .ok (.aload_n 0, 1) := by decide +kernel
theorem dX9_sums_48 : decode cX9_sums 48 = .ok (.getfield 54, 3) := by decide +kernel
theorem dX9_sums_51 : decode cX9_sums 51 = .ok (.aload 4, 2) := by decide +kernel
theorem dX9_sums_53 : decode cX9_sums 53 = .ok (.iload 5, 2) := by decide +kernel
theorem dX9_sums_55 : decode cX9_sums 55 = .ok (.iconst 2, 1) := by decide +kernel
theorem dX9_sums_56 : decode cX9_sums 56 = .ok (.invokevirtual 98, 3) := by decide +kernel
theorem dX9_sums_59 : decode cX9_sums 59 = .ok (.aload 4, 2) := by decide +kernel
theorem dX9_sums_61 : decode cX9_sums 61 = .ok (.iload 5, 2) := by decide +kernel
theorem dX9_sums_63 : decode cX9_sums 63 = .ok (.iconst 3, 1) := by decide +kernel
theorem dX9_sums_64 : decode cX9_sums 64 = .ok (.invokevirtual 98, 3) := by decide +kernel
theorem dX9_sums_67 : decode cX9_sums 67 = .ok (.aload 4, 2) := by decide +kernel
theorem dX9_sums_69 : decode cX9_sums 69 = .ok (.iload 5, 2) := by decide +kernel
theorem dX9_sums_71 : decode cX9_sums 71 = .ok (.iconst 1, 1) := by decide +kernel
theorem dX9_sums_72 : decode cX9_sums 72 = .ok (.invokevirtual 98, 3) := by decide +kernel
theorem dX9_sums_75 : decode cX9_sums 75 = .ok (.invokevirtual 351, 3) := by decide +kernel
theorem dX9_sums_78 : decode cX9_sums 78 = .ok (.iinc 5 1, 3) := by decide +kernel
theorem dX9_sums_81 : decode cX9_sums 81 = .ok (.goto (-44), 3) := by decide +kernel
theorem dX9_sums_84 : decode cX9_sums 84 = .ok (.iconst 0, 1) := by decide +kernel
theorem dX9_sums_85 : decode cX9_sums 85 = .ok (.istore 5, 2) := by decide +kernel
theorem dX9_sums_87 : decode cX9_sums 87 = .ok (.iload_n 2, 1) := by decide +kernel
theorem dX9_sums_88 : decode cX9_sums 88 = .ok (.istore 6, 2) := by decide +kernel
theorem dX9_sums_90 : decode cX9_sums 90 = .ok (.iload_n 2, 1) := by decide +kernel
theorem dX9_sums_91 : decode cX9_sums 91 = .ok (.istore 7, 2) := by decide +kernel
theorem dX9_sums_93 : decode cX9_sums 93 = .ok (.iload 7, 2) := by decide +kernel
theorem dX9_sums_95 : decode cX9_sums 95 = .ok (.iload_n 3, 1) := by decide +kernel
theorem dX9_sums_96 : decode cX9_sums 96 = .ok (.if_icmp .ge 48, 3) := by decide +kernel
theorem dX9_sums_99 : decode cX9_sums 99 = .ok (.iload 5, 2) := by decide +kernel
theorem dX9_sums_101 : decode cX9_sums 101 = .ok (.aload_n 0, 1) := by decide +kernel
theorem dX9_sums_102 : decode cX9_sums 102 = .ok (.getfield 54, 3) := by decide +kernel
theorem dX9_sums_105 : decode cX9_sums 105 = .ok (.iload 7, 2) := by decide +kernel
theorem dX9_sums_107 : decode cX9_sums 107 = .ok (.invokevirtual 264, 3) := by decide +kernel
theorem dX9_sums_110 : decode cX9_sums 110 = .ok (.iadd, 1) := by decide +kernel
theorem dX9_sums_111 : decode cX9_sums 111 = .ok (.istore 5, 2) := by decide +kernel
theorem dX9_sums_113 : decode cX9_sums 113 = .ok (.aload_n 0, 1) := by decide +kernel
theorem dX9_sums_114 : decode cX9_sums 114 = .ok (.getfield 54, 3) := by decide +kernel
theorem dX9_sums_117 : decode cX9_sums 117 = .ok (.iload 7, 2) := by decide +kernel
theorem dX9_sums_119 : decode cX9_sums 119 = .ok (.invokevirtual 264, 3) := by decide +kernel
theorem dX9_sums_122 : decode cX9_sums 122 = .ok (.aload_n 0, 1) := by decide +kernel
theorem dX9_sums_123 : decode cX9_sums 123 = .ok (.getfield 54, 3) := by decide +kernel
theorem dX9_sums_126 : decode cX9_sums 126 = .ok (.iload 6, 2) := by decide +kernel
theorem dX9_sums_128 : decode cX9_sums 128 = .ok (.invokevirtual 264, 3) := by decide +kernel
theorem dX9_sums_131 : decode cX9_sums 131 = .ok (.if_icmp .le 7, 3) := by decide +kernel
theorem dX9_sums_134 : decode cX9_sums 134 = .ok (.iload 7, 2) := by decide +kernel
theorem dX9_sums_136 : decode cX9_sums 136 = .ok (.istore 6, 2) := by decide +kernel
theorem dX9_sums_138 : decode cX9_sums 138 = .ok (.iinc 7 1, 3) := by decide +kernel
theorem dX9_sums_141 : decode cX9_sums 141 = .ok (.goto (-48), 3) := by decide +kernel
theorem dX9_sums_144 : decode cX9_sums 144 = .ok (.aload_n 0, 1) := by decide +kernel
theorem dX9_sums_145 : decode cX9_sums 145 = .ok (.getfield 40, 3) := by decide +kernel
theorem dX9_sums_148 : decode cX9_sums 148 = .ok (.aload_n 0, 1) := by decide +kernel
theorem dX9_sums_149 : decode cX9_sums 149 = .ok (.getfield 54, 3) := by decide +kernel
theorem dX9_sums_152 : decode cX9_sums 152 = .ok (.iload 6, 2) := by decide +kernel
theorem dX9_sums_154 : decode cX9_sums 154 = .ok (.invokevirtual 264, 3) := by decide +kernel
theorem dX9_sums_157 : decode cX9_sums 157 = .ok (.i2l, 1) := by decide +kernel
theorem dX9_sums_158 : decode cX9_sums 158 = .ok (.iload 6, 2) := by decide +kernel
theorem dX9_sums_160 : decode cX9_sums 160 = .ok (.i2l, 1) := by decide +kernel
theorem dX9_sums_161 : decode cX9_sums 161 = .ok (.invokevirtual 182, 3) := by decide +kernel
theorem dX9_sums_164 : decode cX9_sums 164 = .ok (.iload 5, 2) := by decide +kernel
theorem dX9_sums_166 : decode cX9_sums 166 = .ok (.ireturn, 1) := by decide +kernel
theorem dX9_mean_0 : decode cX9_mean 0 = .ok (.iload_n 1, 1) := by decide +kernel
theorem dX9_mean_1 : decode cX9_mean 1 = .ok (.invokestatic 83, 3) := by decide +kernel
theorem dX9_mean_4 : decode cX9_mean 4 = .ok (.ifCond .eq 10, 3) := by decide +kernel
theorem dX9_mean_7 : decode cX9_mean 7 = .ok (.iload_n 2, 1) := by decide +kernel
theorem dX9_mean_8 : decode cX9_mean 8 = .ok (.invokestatic 244, 3) := by decide +kernel
theorem dX9_mean_11 : decode cX9_mean 11 = .ok (.ifCond .ne 5, 3) := by decide +kernel
theorem dX9_mean_14 : decode cX9_mean 14 = .ok (.iconst (-1), 1) := by decide +kernel
theorem dX9_mean_15 : decode cX9_mean 15 = .ok (.ireturn, 1) := by decide +kernel
theorem dX9_mean_16 : decode cX9_mean 16 = .ok (.aload_n 0, 1) := by decide +kernel
theorem dX9_mean_17 : decode cX9_mean 17 = .ok (.getfield 10, 3) := by decide +kernel
theorem dX9_mean_20 : decode cX9_mean 20 = .ok (.iload_n 1, 1) := by decide +kernel
theorem dX9_mean_21 : decode cX9_mean 21 = .ok (.invokevirtual 86, 3) := by decide +kernel
theorem dX9_mean_24 : decode cX9_mean 24 = .ok (.astore_n 3, 1) := by decide +kernel
theorem dX9_mean_25 : decode cX9_mean 25 = .ok (.aload_n 3, 1) := by decide +kernel
theorem dX9_mean_26 : decode cX9_mean 26 = .ok (.iload_n 2, 1) := by decide +kernel
theorem dX9_mean_27 : decode cX9_mean 27 = .ok (.iconst 0, 1) := by decide +kernel
theorem dX9_mean_28 : decode cX9_mean 28 = .ok (.bipush 100, 2) := by decide +kernel
theorem dX9_mean_30 : decode cX9_mean 30 = .ok (.invokevirtual 232, 3) := by decide +kernel
theorem dX9_mean_33 : decode cX9_mean 33 = .ok (.istore 4, 2) := by decide +kernel
theorem dX9_mean_35 : decode cX9_mean 35 = .ok (.iload 4, 2) := by decide +kernel
theorem dX9_mean_37 : decode cX9_mean 37 = .ok (.ifCond .ne 6, 3) := by decide +kernel
theorem dX9_mean_40 : decode cX9_mean 40 = .ok (.bipush (-2), 2) := by decide +kernel
theorem dX9_mean_42 : decode cX9_mean 42 = .ok (.ireturn, 1) := by decide +kernel
theorem dX9_mean_43 : decode cX9_mean 43 = .ok (.iconst 0, 1) := by decide +kernel
theorem dX9_mean_44 : decode cX9_mean 44 = .ok (.istore 5, 2) := by decide +kernel
theorem dX9_mean_46 : decode cX9_mean 46 = .ok (.iconst 0, 1) := by decide +kernel
theorem dX9_mean_47 : decode cX9_mean 47 = .ok (.istore 6, 2) := by decide +kernel
theorem dX9_mean_49 : decode cX9_mean 49 = .ok (.iload 6, 2) := by decide +kernel
theorem dX9_mean_51 : decode cX9_mean 51 = .ok (.aload_n 3, 1) := by decide +kernel
theorem dX9_mean_52 : decode cX9_mean 52 = .ok (.getfield 106, 3) := by decide +kernel
theorem dX9_mean_55 : decode cX9_mean 55 = .ok (.if_icmp .ge 39, 3) := by decide +kernel
theorem dX9_mean_58 : decode cX9_mean 58 = .ok (.aload_n 3, 1) := by decide +kernel
theorem dX9_mean_59 : decode cX9_mean 59 = .ok (.iload 6, 2) := by decide +kernel
theorem dX9_mean_61 : decode cX9_mean 61 = .ok (.iconst 0, 1) := by decide +kernel
theorem dX9_mean_62 : decode cX9_mean 62 = .ok (.invokevirtual 98, 3) := by decide +kernel
theorem dX9_mean_65 : decode cX9_mean 65 = .ok (.iload_n 2, 1) := by decide +kernel
theorem dX9_mean_66 : decode cX9_mean 66 = .ok (.if_icmp .ne 22, 3) := by decide +kernel
theorem dX9_mean_69 : decode cX9_mean 69 = .ok (.iload 5, 2) := by decide +kernel
theorem dX9_mean_71 : decode cX9_mean 71 = .ok (.aload_n 3, 1) := by decide +kernel
theorem dX9_mean_72 : decode cX9_mean 72 = .ok (.iload 6, 2) := by decide +kernel
theorem dX9_mean_74 : decode cX9_mean 74 = .ok (.iconst 1, 1) := by decide +kernel
theorem dX9_mean_75 : decode cX9_mean 75 = .ok (.invokevirtual 98, 3) := by decide +kernel
theorem dX9_mean_78 : decode cX9_mean 78 = .ok (.aload_n 3, 1) := by decide +kernel
theorem dX9_mean_79 : decode cX9_mean 79 = .ok (.iload 6, 2) := by decide +kernel
theorem dX9_mean_81 : decode cX9_mean 81 = .ok (.invokevirtual 318, 3) := by decide +kernel
theorem dX9_mean_84 : decode cX9_mean 84 = .ok (.imul, 1) := by decide +kernel
theorem dX9_mean_85 : decode cX9_mean 85 = .ok (.iadd, 1) := by decide +kernel
theorem dX9_mean_86 : decode cX9_mean 86 = .ok (.istore 5, 2) := by decide +kernel
theorem dX9_mean_88 : decode cX9_mean 88 = .ok (.iinc 6 1, 3) := by decide +kernel
theorem dX9_mean_91 : decode cX9_mean 91 = .ok (.goto (-42), 3) := by decide +kernel
theorem dX9_mean_94 : decode cX9_mean 94 = .ok (.iload 5, 2) := by decide +kernel
theorem dX9_mean_96 : decode cX9_mean 96 = .ok (.iload 4, 2) := by decide +kernel
theorem dX9_mean_98 : decode cX9_mean 98 = .ok (.invokestatic 353, 3) := by decide +kernel
theorem dX9_mean_101 : decode cX9_mean 101 = .ok (.istore 6, 2) := by decide +kernel
theorem dX9_mean_103 : decode cX9_mean 103 = .ok (.aload_n 0, 1) := by decide +kernel
theorem dX9_mean_104 : decode cX9_mean 104 = .ok (.getfield 40, 3) := by decide +kernel
theorem dX9_mean_107 : decode cX9_mean 107 = .ok (.iload 5, 2) := by decide +kernel
theorem dX9_mean_109 : decode cX9_mean 109 = .ok (.iload 6, 2) := by decide +kernel
theorem dX9_mean_111 : decode cX9_mean 111 = .ok (.idiv, 1) := by decide +kernel
theorem dX9_mean_112 : decode cX9_mean 112 = .ok (.i2l, 1) := by decide +kernel
theorem dX9_mean_113 : decode cX9_mean 113 = .ok (.iload 4, 2) := by decide +kernel
theorem dX9_mean_115 : decode cX9_mean 115 = .ok (.iload 6, 2) := by decide +kernel
theorem dX9_mean_117 : decode cX9_mean 117 = .ok (.idiv, 1) := by decide +kernel
theorem dX9_mean_118 : decode cX9_mean 118 = .ok (.i2l, 1) := by decide +kernel
theorem dX9_mean_119 : decode cX9_mean 119 = .ok (.iload 4, 2) := by decide +kernel
theorem dX9_mean_121 : decode cX9_mean 121 = .ok (.i2l, 1) := by decide +kernel
theorem dX9_mean_122 : decode cX9_mean 122 = .ok (.invokevirtual 293, 3) := by decide +kernel
theorem dX9_mean_125 : decode cX9_mean 125 = .ok (.iconst 0, 1) := by decide +kernel
theorem dX9_mean_126 : decode cX9_mean 126 = .ok (.ireturn, 1) := by decide +kernel
theorem dX9_commonDivisor_0 : decode cX9_commonDivisor 0 = .ok (.iload_n 0, 1) := by decide +kernel
theorem dX9_commonDivisor_1 : decode cX9_commonDivisor 1 = .ok (.istore_n 2, 1) := by decide +kernel
theorem dX9_commonDivisor_2 : decode cX9_commonDivisor 2 = .ok (.iload_n 1, 1) := by decide +kernel
theorem dX9_commonDivisor_3 : decode cX9_commonDivisor 3 = .ok (.istore_n 3, 1) := by decide +kernel
theorem dX9_commonDivisor_4 : decode cX9_commonDivisor 4 = .ok (.iconst 0, 1) := by decide +kernel
theorem dX9_commonDivisor_5 : decode cX9_commonDivisor 5 = .ok (.istore 4, 2) := by decide +kernel
theorem dX9_commonDivisor_7 : decode cX9_commonDivisor 7 = .ok (.iload 4, 2) := by decide +kernel
theorem dX9_commonDivisor_9 : decode cX9_commonDivisor 9 = .ok (.bipush 64, 2) := by decide +kernel
theorem dX9_commonDivisor_11 : decode cX9_commonDivisor 11 = .ok (.if_icmp .ge 23, 3) := by decide +kernel
theorem dX9_commonDivisor_14 : decode cX9_commonDivisor 14 = .ok (.iload_n 3, 1) := by decide +kernel
theorem dX9_commonDivisor_15 : decode cX9_commonDivisor 15 = .ok (.ifCond .eq 19, 3) := by decide +kernel
theorem dX9_commonDivisor_18 : decode cX9_commonDivisor 18 = .ok (.iload_n 2, 1) := by decide +kernel
theorem dX9_commonDivisor_19 : decode cX9_commonDivisor 19 = .ok (.iload_n 3, 1) := by decide +kernel
theorem dX9_commonDivisor_20 : decode cX9_commonDivisor 20 = .ok (.irem, 1) := by decide +kernel
theorem dX9_commonDivisor_21 : decode cX9_commonDivisor 21 = .ok (.istore 5, 2) := by decide +kernel
theorem dX9_commonDivisor_23 : decode cX9_commonDivisor 23 = .ok (.iload_n 3, 1) := by decide +kernel
theorem dX9_commonDivisor_24 : decode cX9_commonDivisor 24 = .ok (.istore_n 2, 1) := by decide +kernel
theorem dX9_commonDivisor_25 : decode cX9_commonDivisor 25 = .ok (.iload 5, 2) := by decide +kernel
theorem dX9_commonDivisor_27 : decode cX9_commonDivisor 27 = .ok (.istore_n 3, 1) := by decide +kernel
theorem dX9_commonDivisor_28 : decode cX9_commonDivisor 28 = .ok (.iinc 4 1, 3) := by decide +kernel
theorem dX9_commonDivisor_31 : decode cX9_commonDivisor 31 = .ok (.goto (-24), 3) := by decide +kernel
theorem dX9_commonDivisor_34 : decode cX9_commonDivisor 34 = .ok (.iconst 1, 1) := by decide +kernel
theorem dX9_commonDivisor_35 : decode cX9_commonDivisor 35 = .ok (.iload_n 2, 1) := by decide +kernel
theorem dX9_commonDivisor_36 : decode cX9_commonDivisor 36 = .ok (.invokestatic 119, 3) := by decide +kernel
theorem dX9_commonDivisor_39 : decode cX9_commonDivisor 39 = .ok (.ireturn, 1) := by decide +kernel
theorem dX9_fullest_0 : decode cX9_fullest 0 = .ok (.iload_n 1, 1) := by decide +kernel
theorem dX9_fullest_1 : decode cX9_fullest 1 = .ok (.invokestatic 83, 3) := by decide +kernel
theorem dX9_fullest_4 : decode cX9_fullest 4 = .ok (.ifCond .ne 5, 3) := by decide +kernel
theorem dX9_fullest_7 : decode cX9_fullest 7 = .ok (.iconst (-1), 1) := by decide +kernel
theorem dX9_fullest_8 : decode cX9_fullest 8 = .ok (.ireturn, 1) := by decide +kernel
theorem dX9_fullest_9 : decode cX9_fullest 9 = .ok (.aload_n 0, 1) := by decide +kernel
theorem dX9_fullest_10 : decode cX9_fullest 10 = .ok (.getfield 10, 3) := by decide +kernel
theorem dX9_fullest_13 : decode cX9_fullest 13 = .ok (.iload_n 1, 1) := by decide +kernel
theorem dX9_fullest_14 : decode cX9_fullest 14 = .ok (.invokevirtual 86, 3) := by decide +kernel
theorem dX9_fullest_17 : decode cX9_fullest 17 = .ok (.astore_n 2, 1) := by decide +kernel
theorem dX9_fullest_18 : decode cX9_fullest 18 = .ok (.aload_n 0, 1) := by decide +kernel
theorem dX9_fullest_19 : decode cX9_fullest 19 = .ok (.getfield 54, 3) := by decide +kernel
theorem dX9_fullest_22 : decode cX9_fullest 22 = .ok (.invokevirtual 251, 3) := by decide +kernel
theorem dX9_fullest_25 : decode cX9_fullest 25 = .ok (.iconst 0, 1) := by decide +kernel
theorem dX9_fullest_26 : decode cX9_fullest 26 = .ok (.istore_n 3, 1) := by decide +kernel
theorem dX9_fullest_27 : decode cX9_fullest 27 = .ok (.iload_n 3, 1) := by decide +kernel
theorem dX9_fullest_28 : decode cX9_fullest 28 = .ok (.aload_n 2, 1) := by decide +kernel
theorem dX9_fullest_29 : decode cX9_fullest 29 = .ok (.getfield 106, 3) := by decide +kernel
theorem dX9_fullest_32 : decode cX9_fullest 32 = .ok (.if_icmp .ge 29, 3) := by decide +kernel
theorem dX9_fullest_35 : decode cX9_fullest 35 = .ok (.aload_n 0, 1) := by decide +kernel
theorem dX9_fullest_36 : decode cX9_fullest 36 = .ok (.getfield 54, 3) := by decide +kernel
theorem dX9_fullest_39 : decode cX9_fullest 39 = .ok (.aload_n 2, 1) := by decide +kernel
theorem dX9_fullest_40 : decode cX9_fullest 40 = .ok (.iload_n 3, 1) := by decide +kernel
theorem dX9_fullest_41 : decode cX9_fullest 41 = .ok (.iconst 2, 1) := by decide +kernel
theorem dX9_fullest_42 : decode cX9_fullest 42 = .ok (.invokevirtual 98, 3) := by decide +kernel
theorem dX9_fullest_45 : decode cX9_fullest 45 = .ok (.aload_n 2, 1) := by decide +kernel
theorem dX9_fullest_46 : decode cX9_fullest 46 = .ok (.iload_n 3, 1) := by decide +kernel
theorem dX9_fullest_47 : decode cX9_fullest 47 = .ok (.iconst 3, 1) := by decide +kernel
theorem dX9_fullest_48 : decode cX9_fullest 48 = .ok (.invokevirtual 98, 3) := by decide +kernel
theorem dX9_fullest_51 : decode cX9_fullest 51 = .ok (.iconst 1, 1) := by decide +kernel
theorem dX9_fullest_52 : decode cX9_fullest 52 = .ok (.invokevirtual 351, 3) := by decide +kernel
theorem dX9_fullest_55 : decode cX9_fullest 55 = .ok (.iinc 3 1, 3) := by decide +kernel
theorem dX9_fullest_58 : decode cX9_fullest 58 = .ok (.goto (-31), 3) := by decide +kernel
theorem dX9_fullest_61 : decode cX9_fullest 61 = .ok (.iconst 0, 1) := by decide +kernel
theorem dX9_fullest_62 : decode cX9_fullest 62 = .ok (.istore_n 3, 1) := by decide +kernel
theorem dX9_fullest_63 : decode cX9_fullest 63 = .ok (.iconst 0, 1) := by decide +kernel
theorem dX9_fullest_64 : decode cX9_fullest 64 = .ok (.istore 4, 2) := by decide +kernel
theorem dX9_fullest_66 : decode cX9_fullest 66 = .ok (.iconst 0, 1) := by decide +kernel
theorem dX9_fullest_67 : decode cX9_fullest 67 = .ok (.istore 5, 2) := by decide +kernel
theorem dX9_fullest_69 : decode cX9_fullest 69 = .ok (.iload 5, 2) := by decide +kernel
theorem dX9_fullest_71 : decode cX9_fullest 71 = .ok (.bipush 100, 2) := by decide +kernel
theorem dX9_fullest_73 : decode cX9_fullest 73 = .ok (.if_icmp .ge 58, 3) := by decide +kernel
theorem dX9_fullest_76 : decode cX9_fullest 76 = .ok (.aload_n 0, 1) := by decide +kernel
theorem dX9_fullest_77 : decode cX9_fullest 77 = .ok (.getfield 54, 3) := by decide +kernel
theorem dX9_fullest_80 : decode cX9_fullest 80 = .ok (.iload 5, 2) := by decide +kernel
theorem dX9_fullest_82 : decode cX9_fullest 82 = .ok (.invokevirtual 264, 3) := by decide +kernel
theorem dX9_fullest_85 : decode cX9_fullest 85 = .ok (.aload_n 0, 1) := by decide +kernel
theorem dX9_fullest_86 : decode cX9_fullest 86 = .ok (.getfield 54, 3) := by decide +kernel
theorem dX9_fullest_89 : decode cX9_fullest 89 = .ok (.iload_n 3, 1) := by decide +kernel
theorem dX9_fullest_90 : decode cX9_fullest 90 = .ok (.invokevirtual 264, 3) := by decide +kernel
theorem dX9_fullest_93 : decode cX9_fullest 93 = .ok (.if_icmp .le 9, 3) := by decide +kernel
theorem dX9_fullest_96 : decode cX9_fullest 96 = .ok (.iload 5, 2) := by decide +kernel
theorem dX9_fullest_98 : decode cX9_fullest 98 = .ok (.istore_n 3, 1) := by decide +kernel
theorem dX9_fullest_99 : decode cX9_fullest 99 = .ok (.iconst 0, 1) := by decide +kernel
theorem dX9_fullest_100 : decode cX9_fullest 100 = .ok (.istore 4, 2) := by decide +kernel
theorem dX9_fullest_102 : decode cX9_fullest 102 = .ok (.aload_n 0, 1) := by decide +kernel
theorem dX9_fullest_103 : decode cX9_fullest 103 = .ok (.getfield 54, 3) := by decide +kernel
theorem dX9_fullest_106 : decode cX9_fullest 106 = .ok (.iload 5, 2) := by decide +kernel
theorem dX9_fullest_108 : decode cX9_fullest 108 = .ok (.invokevirtual 264, 3) := by decide +kernel
theorem dX9_fullest_111 : decode cX9_fullest 111 = .ok (.aload_n 0, 1) := by decide +kernel
theorem dX9_fullest_112 : decode cX9_fullest 112 = .ok (.getfield 54, 3) := by decide +kernel
theorem dX9_fullest_115 : decode cX9_fullest 115 = .ok (.iload_n 3, 1) := by decide +kernel
theorem dX9_fullest_116 : decode cX9_fullest 116 = .ok (.invokevirtual 264, 3) := by decide +kernel
theorem dX9_fullest_119 : decode cX9_fullest 119 = .ok (.if_icmp .ne 6, 3) := by decide +kernel
theorem dX9_fullest_122 : decode cX9_fullest 122 = .ok (.iinc 4 1, 3) := by decide +kernel
theorem dX9_fullest_125 : decode cX9_fullest 125 = .ok (.iinc 5 1, 3) := by decide +kernel
theorem dX9_fullest_128 : decode cX9_fullest 128 = .ok (.goto (-59), 3) := by decide +kernel
theorem dX9_fullest_131 : decode cX9_fullest 131 = .ok (.aload_n 0, 1) := by decide +kernel
theorem dX9_fullest_132 : decode cX9_fullest 132 = .ok (.getfield 40, 3) := by decide +kernel
theorem dX9_fullest_135 : decode cX9_fullest 135 = .ok (.aload_n 0, 1) := by decide +kernel
theorem dX9_fullest_136 : decode cX9_fullest 136 = .ok (.getfield 54, 3) := by decide +kernel
theorem dX9_fullest_139 : decode cX9_fullest 139 = .ok (.iload_n 3, 1) := by decide +kernel
theorem dX9_fullest_140 : decode cX9_fullest 140 = .ok (.invokevirtual 264, 3) := by decide +kernel
theorem dX9_fullest_143 : decode cX9_fullest 143 = .ok (.i2l, 1) := by decide +kernel
theorem dX9_fullest_144 : decode cX9_fullest 144 = .ok (.iload 4, 2) := by decide +kernel
theorem dX9_fullest_146 : decode cX9_fullest 146 = .ok (.i2l, 1) := by decide +kernel
theorem dX9_fullest_147 : decode cX9_fullest 147 = .ok (.invokevirtual 182, 3) := by decide +kernel
theorem dX9_fullest_150 : decode cX9_fullest 150 = .ok (.iload_n 3, 1) := by decide +kernel
theorem dX9_fullest_151 : decode cX9_fullest 151 = .ok (.ireturn, 1) := by decide +kernel
theorem dX9_spans_0 : decode cX9_spans 0 = .ok (.iload_n 1, 1) := by decide +kernel
theorem dX9_spans_1 : decode cX9_spans 1 = .ok (.invokestatic 83, 3) := by decide +kernel
theorem dX9_spans_4 : decode cX9_spans 4 = .ok (.ifCond .eq 11, 3) := by decide +kernel
theorem dX9_spans_7 : decode cX9_spans 7 = .ok (.iload_n 2, 1) := by decide +kernel
theorem dX9_spans_8 : decode cX9_spans 8 = .ok (.iload_n 3, 1) := by decide +kernel
theorem dX9_spans_9 : decode cX9_spans 9 = .ok (.invokestatic 321, 3) := by decide +kernel
theorem dX9_spans_12 : decode cX9_spans 12 = .ok (.ifCond .ne 5, 3) := by decide +kernel
theorem dX9_spans_15 : decode cX9_spans 15 = .ok (.iconst (-1), 1) := by decide +kernel
theorem dX9_spans_16 : decode cX9_spans 16 = .ok (.ireturn, 1) := by decide +kernel
theorem dX9_spans_17 : decode cX9_spans 17 = .ok (.aload_n 0, 1) := by decide +kernel
theorem dX9_spans_18 : decode cX9_spans 18 = .ok (.getfield 10, 3) := by decide +kernel
theorem dX9_spans_21 : decode cX9_spans 21 = .ok (.iload_n 1, 1) := by decide +kernel
theorem dX9_spans_22 : decode cX9_spans 22 = .ok (.invokevirtual 86, 3) := by decide +kernel
theorem dX9_spans_25 : decode cX9_spans 25 = .ok (.astore 4, 2) := by decide +kernel
theorem dX9_spans_27 : decode cX9_spans 27 = .ok (.aload_n 0, 1) := by decide +kernel
theorem dX9_spans_28 : decode cX9_spans 28 = .ok (.getfield 54, 3) := by decide +kernel
theorem dX9_spans_31 : decode cX9_spans 31 = .ok (.invokevirtual 251, 3) := by decide +kernel
theorem dX9_spans_34 : decode cX9_spans 34 = .ok (.aload_n 0, 1) := by decide +kernel
theorem dX9_spans_35 : decode cX9_spans 35 = .ok (.aload 4, 2) := by decide +kernel
theorem dX9_spans_37 : decode cX9_spans 37 = .ok (.iconst (-1), 1) := by decide +kernel
theorem dX9_spans_38 : decode cX9_spans 38 = .ok (.iload_n 2, 1) := by decide +kernel
theorem dX9_spans_39 : decode cX9_spans 39 = .ok (.iload_n 3, 1) := by decide +kernel
theorem dX9_spans_40 : decode cX9_spans 40 = .ok (.invokevirtual 356, 3) := by decide +kernel
theorem dX9_spans_43 : decode cX9_spans 43 = .ok (.istore 5, 2) := by decide +kernel
theorem dX9_spans_45 : decode cX9_spans 45 = .ok (.iload 5, 2) := by decide +kernel
theorem dX9_spans_47 : decode cX9_spans 47 = .ok (.bipush 20, 2) := by decide +kernel
theorem dX9_spans_49 : decode cX9_spans 49 = .ok (.if_icmp .le 6, 3) := by decide +kernel
theorem dX9_spans_52 : decode cX9_spans 52 = .ok (.bipush (-2), 2) := by decide +kernel
theorem dX9_spans_54 : decode cX9_spans 54 = .ok (.ireturn, 1) := by decide +kernel
theorem dX9_spans_55 : decode cX9_spans 55 = .ok (.aload_n 0, 1) := by decide +kernel
theorem dX9_spans_56 : decode cX9_spans 56 = .ok (.getfield 40, 3) := by decide +kernel
theorem dX9_spans_59 : decode cX9_spans 59 = .ok (.invokevirtual 296, 3) := by decide +kernel
theorem dX9_spans_62 : decode cX9_spans 62 = .ok (.iload 5, 2) := by decide +kernel
theorem dX9_spans_64 : decode cX9_spans 64 = .ok (.istore 6, 2) := by decide +kernel
theorem dX9_spans_66 : decode cX9_spans 66 = .ok (.iconst 0, 1) := by decide +kernel
theorem dX9_spans_67 : decode cX9_spans 67 = .ok (.istore 7, 2) := by decide +kernel
theorem dX9_spans_69 : decode cX9_spans 69 = .ok (.iload 7, 2) := by decide +kernel
theorem dX9_spans_71 : decode cX9_spans 71 = .ok (.aload 4, 2) := by decide +kernel
theorem dX9_spans_73 : decode cX9_spans 73 = .ok (.getfield 106, 3) := by decide +kernel
theorem dX9_spans_76 : decode cX9_spans 76 = .ok (.if_icmp .ge 66, 3) := by decide +kernel
theorem dX9_spans_79 : decode cX9_spans 79 = .ok (.iload 6, 2) := by decide +kernel
theorem dX9_spans_81 : decode cX9_spans 81 = .ok (.ifCond .le 61, 3) := by decide +kernel
theorem dX9_spans_84 : decode cX9_spans 84 = .ok (.aload_n 0, 1) := by decide +kernel
theorem dX9_spans_85 : decode cX9_spans 85 = .ok (.aload 4, 2) := by decide +kernel
theorem dX9_spans_87 : decode cX9_spans 87 = .ok (.iload 7, 2) := by decide +kernel
theorem dX9_spans_89 : decode cX9_spans 89 = .ok (.iload_n 2, 1) := by decide +kernel
theorem dX9_spans_90 : decode cX9_spans 90 = .ok (.iload_n 3, 1) := by decide +kernel
theorem dX9_spans_91 : decode cX9_spans 91 = .ok (.invokevirtual 356, 3) := by decide +kernel
theorem dX9_spans_94 : decode cX9_spans 94 = .ok (.iload 6, 2) := by decide +kernel
theorem dX9_spans_96 : decode cX9_spans 96 = .ok (.if_icmp .ge 40, 3) := by decide +kernel
theorem dX9_spans_99 : decode cX9_spans 99 = .ok (.aload_n 0, 1) := by decide +kernel
theorem dX9_spans_100 : decode cX9_spans 100 = .ok (.getfield 54, 3) := by decide +kernel
theorem dX9_spans_103 : decode cX9_spans 103 = .ok (.aload 4, 2) := by decide +kernel
theorem dX9_spans_105 : decode cX9_spans 105 = .ok (.iload 7, 2) := by decide +kernel
theorem dX9_spans_107 : decode cX9_spans 107 = .ok (.iconst 2, 1) := by decide +kernel
theorem dX9_spans_108 : decode cX9_spans 108 = .ok (.invokevirtual 98, 3) := by decide +kernel
theorem dX9_spans_111 : decode cX9_spans 111 = .ok (.aload 4, 2) := by decide +kernel
theorem dX9_spans_113 : decode cX9_spans 113 = .ok (.iload 7, 2) := by decide +kernel
theorem dX9_spans_115 : decode cX9_spans 115 = .ok (.iconst 3, 1) := by decide +kernel
theorem dX9_spans_116 : decode cX9_spans 116 = .ok (.invokevirtual 98, 3) := by decide +kernel
theorem dX9_spans_119 : decode cX9_spans 119 = .ok (.iconst 1, 1) := by decide +kernel
theorem dX9_spans_120 : decode cX9_spans 120 = .ok (.invokevirtual 351, 3) := by decide +kernel
theorem dX9_spans_123 : decode cX9_spans 123 = .ok (.aload_n 0, 1) := by decide +kernel
theorem dX9_spans_124 : decode cX9_spans 124 = .ok (.getfield 40, 3) := by decide +kernel
theorem dX9_spans_127 : decode cX9_spans 127 = .ok (.iload 7, 2) := by decide +kernel
theorem dX9_spans_129 : decode cX9_spans 129 = .ok (.i2l, 1) := by decide +kernel
theorem dX9_spans_130 : decode cX9_spans 130 = .ok (.invokevirtual 300, 3) := by decide +kernel
theorem dX9_spans_133 : decode cX9_spans 133 = .ok (.iinc 6 (-1), 3) := by decide +kernel
theorem dX9_spans_136 : decode cX9_spans 136 = .ok (.iinc 7 1, 3) := by decide +kernel
theorem dX9_spans_139 : decode cX9_spans 139 = .ok (.goto (-70), 3) := by decide +kernel
theorem dX9_spans_142 : decode cX9_spans 142 = .ok (.iload 5, 2) := by decide +kernel
theorem dX9_spans_144 : decode cX9_spans 144 = .ok (.ireturn, 1) := by decide +kernel
theorem dX9_fewestBehind_0 : decode cX9_fewestBehind 0 = .ok (.iconst 0, 1) := by decide +kernel
theorem dX9_fewestBehind_1 : decode cX9_fewestBehind 1 = .ok (.istore 5, 2) := by decide +kernel
theorem dX9_fewestBehind_3 : decode cX9_fewestBehind 3 = .ok (.iload_n 3, 1) := by decide +kernel
theorem dX9_fewestBehind_4 : decode cX9_fewestBehind 4 = .ok (.istore 6, 2) := by decide +kernel
theorem dX9_fewestBehind_6 : decode cX9_fewestBehind 6 = .ok (.iconst 0, 1) := by decide +kernel
theorem dX9_fewestBehind_7 : decode cX9_fewestBehind 7 = .ok (.istore 7, 2) := by decide +kernel
theorem dX9_fewestBehind_9 : decode cX9_fewestBehind 9 = .ok (.iload 7, 2) := by decide +kernel
theorem dX9_fewestBehind_11 : decode cX9_fewestBehind 11 = .ok (.bipush 100, 2) := by decide +kernel
theorem dX9_fewestBehind_13 : decode cX9_fewestBehind 13 = .ok (.if_icmp .ge 118, 3) := by decide +kernel
theorem dX9_fewestBehind_16 : decode cX9_fewestBehind 16 = .ok (.iload 6, 2) := by decide +kernel
theorem dX9_fewestBehind_18 : decode cX9_fewestBehind 18 = .ok (.iload 4, 2) := by decide +kernel
theorem dX9_fewestBehind_20 : decode cX9_fewestBehind 20 = .ok (.if_icmp .ge 111, 3) := by decide +kernel
theorem dX9_fewestBehind_23 : decode cX9_fewestBehind 23 = .ok (.aload_n 0, 1) := by decide +kernel
theorem dX9_fewestBehind_24 : decode cX9_fewestBehind 24 = .ok (.getfield 54, 3) := by decide +kernel
theorem dX9_fewestBehind_27 : decode cX9_fewestBehind 27 = .ok (.iload 6, 2) := by decide +kernel
theorem dX9_fewestBehind_29 : decode cX9_fewestBehind 29 = .ok (.invokevirtual 264, 3) := by decide +kernel
theorem dX9_fewestBehind_32 : decode cX9_fewestBehind 32 = .ok (.ifCond .gt 17, 3) := by decide +kernel
theorem dX9_fewestBehind_35 : decode cX9_fewestBehind 35 = .ok (.aload_n 1, 1) := by decide +kernel
theorem dX9_fewestBehind_36 : decode cX9_fewestBehind 36 = .ok (.iload_n 2, 1) := by decide +kernel
theorem dX9_fewestBehind_37 : decode cX9_fewestBehind 37 = .ok (.iload 6, 2) := by decide +kernel
theorem dX9_fewestBehind_39 : decode cX9_fewestBehind 39 = .ok (.iload 6, 2) := by decide +kernel
theorem dX9_fewestBehind_41 : decode cX9_fewestBehind 41 = .ok (.iconst 1, 1) := by decide +kernel
theorem dX9_fewestBehind_42 : decode cX9_fewestBehind 42 = .ok (.iadd, 1) := by decide +kernel
theorem dX9_fewestBehind_43 : decode cX9_fewestBehind 43 = .ok (.invokevirtual 297, 3) := by decide +kernel
theorem dX9_fewestBehind_46 : decode cX9_fewestBehind 46 = .ok (.ifCond .le 9, 3) := by decide +kernel
theorem dX9_fewestBehind_49 : decode cX9_fewestBehind 49 = .ok (.iinc 6 1, 3) := by decide +kernel
theorem dX9_fewestBehind_52 : decode cX9_fewestBehind 52 = .ok (.goto 73, 3) := by decide +kernel
theorem dX9_fewestBehind_55 : decode cX9_fewestBehind 55 = .ok (.iload 6, 2) := by decide +kernel
theorem dX9_fewestBehind_57 : decode cX9_fewestBehind 57 = .ok (.istore 8, 2) := by decide +kernel
theorem dX9_fewestBehind_59 : decode cX9_fewestBehind 59 = .ok (.iload_n 2, 1) := by decide +kernel
theorem dX9_fewestBehind_60 : decode cX9_fewestBehind 60 = .ok (.iconst 1, 1) := by decide +kernel
theorem dX9_fewestBehind_61 : decode cX9_fewestBehind 61 = .ok (.iadd, 1) := by decide +kernel
theorem dX9_fewestBehind_62 : decode cX9_fewestBehind 62 = .ok (.istore 9, 2) := by decide +kernel
theorem dX9_fewestBehind_64 : decode cX9_fewestBehind 64 = .ok (.iload 9, 2) := by decide +kernel
theorem dX9_fewestBehind_66 : decode cX9_fewestBehind 66 = .ok (.aload_n 1, 1) := by decide +kernel
theorem dX9_fewestBehind_67 : decode cX9_fewestBehind 67 = .ok (.getfield 106, 3) := by decide +kernel
theorem dX9_fewestBehind_70 : decode cX9_fewestBehind 70 = .ok (.if_icmp .ge 38, 3) := by decide +kernel
theorem dX9_fewestBehind_73 : decode cX9_fewestBehind 73 = .ok (.aload_n 1, 1) := by decide +kernel
theorem dX9_fewestBehind_74 : decode cX9_fewestBehind 74 = .ok (.iload 9, 2) := by decide +kernel
theorem dX9_fewestBehind_76 : decode cX9_fewestBehind 76 = .ok (.iload 6, 2) := by decide +kernel
theorem dX9_fewestBehind_78 : decode cX9_fewestBehind 78 = .ok (.iload 6, 2) := by decide +kernel
theorem dX9_fewestBehind_80 : decode cX9_fewestBehind 80 = .ok (.iconst 1, 1) := by decide +kernel
theorem dX9_fewestBehind_81 : decode cX9_fewestBehind 81 = .ok (.iadd, 1) := by decide +kernel
theorem dX9_fewestBehind_82 : decode cX9_fewestBehind 82 = .ok (.invokevirtual 297, 3) := by decide +kernel
theorem dX9_fewestBehind_85 : decode cX9_fewestBehind 85 = .ok (.ifCond .le 17, 3) := by decide +kernel
theorem dX9_fewestBehind_88 : decode cX9_fewestBehind 88 = .ok (.iload 8, 2) := by decide +kernel
theorem dX9_fewestBehind_90 : decode cX9_fewestBehind 90 = .ok (.aload_n 1, 1) := by decide +kernel
theorem dX9_fewestBehind_91 : decode cX9_fewestBehind 91 = .ok (.iload 9, 2) := by decide +kernel
theorem dX9_fewestBehind_93 : decode cX9_fewestBehind 93 = .ok (.iconst 3, 1) := by decide +kernel
theorem dX9_fewestBehind_94 : decode cX9_fewestBehind 94 = .ok (.invokevirtual 98, 3) := by decide +kernel
theorem dX9_fewestBehind_97 : decode cX9_fewestBehind 97 = .ok (.invokestatic 119, 3) := by decide +kernel
theorem dX9_fewestBehind_100 : decode cX9_fewestBehind 100 = .ok (.istore 8, 2) := by decide +kernel
theorem dX9_fewestBehind_102 : decode cX9_fewestBehind 102 = .ok (.iinc 9 1, 3) := by decide +kernel
theorem dX9_fewestBehind_105 : decode cX9_fewestBehind 105 = .ok (.goto (-41), 3) := by decide +kernel
theorem dX9_fewestBehind_108 : decode cX9_fewestBehind 108 = .ok (.iload 8, 2) := by decide +kernel
theorem dX9_fewestBehind_110 : decode cX9_fewestBehind 110 = .ok (.iload 6, 2) := by decide +kernel
theorem dX9_fewestBehind_112 : decode cX9_fewestBehind 112 = .ok (.if_icmp .ne 6, 3) := by decide +kernel
theorem dX9_fewestBehind_115 : decode cX9_fewestBehind 115 = .ok (.bipush 21, 2) := by decide +kernel
theorem dX9_fewestBehind_117 : decode cX9_fewestBehind 117 = .ok (.ireturn, 1) := by decide +kernel
theorem dX9_fewestBehind_118 : decode cX9_fewestBehind 118 = .ok (.iinc 5 1, 3) := by decide +kernel
theorem dX9_fewestBehind_121 : decode cX9_fewestBehind 121 = .ok (.iload 8, 2) := by decide +kernel
theorem dX9_fewestBehind_123 : decode cX9_fewestBehind 123 = .ok (.istore 6, 2) := by decide +kernel
theorem dX9_fewestBehind_125 : decode cX9_fewestBehind 125 = .ok (.iinc 7 1, 3) := by decide +kernel
theorem dX9_fewestBehind_128 : decode cX9_fewestBehind 128 = .ok (.goto (-119), 3) := by decide +kernel
theorem dX9_fewestBehind_131 : decode cX9_fewestBehind 131 = .ok (.iload 5, 2) := by decide +kernel
theorem dX9_fewestBehind_133 : decode cX9_fewestBehind 133 = .ok (.ireturn, 1) := by decide +kernel
theorem dX9_users_0 : decode cX9_users 0 = .ok (.iload_n 1, 1) := by decide +kernel
theorem dX9_users_1 : decode cX9_users 1 = .ok (.invokestatic 244, 3) := by decide +kernel
theorem dX9_users_4 : decode cX9_users 4 = .ok (.ifCond .ne 5, 3) := by decide +kernel
theorem dX9_users_7 : decode cX9_users 7 = .ok (.iconst (-1), 1) := by decide +kernel
theorem dX9_users_8 : decode cX9_users 8 = .ok (.ireturn, 1) := by decide +kernel
theorem dX9_users_9 : decode cX9_users 9 = .ok (.iconst 0, 1) := by decide +kernel
theorem dX9_users_10 : decode cX9_users 10 = .ok (.istore_n 2, 1) := by decide +kernel
theorem dX9_users_11 : decode cX9_users 11 = .ok (.aload_n 0, 1) := by decide +kernel
theorem dX9_users_12 : decode cX9_users 12 = .ok (.getfield 54, 3) := by decide +kernel
theorem dX9_users_15 : decode cX9_users 15 = .ok (.invokevirtual 251, 3) := by decide +kernel
theorem dX9_users_18 : decode cX9_users 18 = .ok (.iconst 0, 1) := by decide +kernel
theorem dX9_users_19 : decode cX9_users 19 = .ok (.istore_n 3, 1) := by decide +kernel
theorem dX9_users_20 : decode cX9_users 20 = .ok (.iload_n 3, 1) := by decide +kernel
theorem dX9_users_21 : decode cX9_users 21 = .ok (.aload_n 0, 1) := by decide +kernel
theorem dX9_users_22 : decode cX9_users 22 = .ok (.getfield 10, 3) := by decide +kernel
theorem dX9_users_25 : decode cX9_users 25 = .ok (.getfield 102, 3) := by decide +kernel
theorem dX9_users_28 : decode cX9_users 28 = .ok (.getfield 106, 3) := by decide +kernel
theorem dX9_users_31 : decode cX9_users 31 = .ok (.if_icmp .ge 60, 3) := by decide +kernel
theorem dX9_users_34 : decode cX9_users 34 = .ok (.aload_n 0, 1) := by decide +kernel
theorem dX9_users_35 : decode cX9_users 35 = .ok (.getfield 10, 3) := by decide +kernel
theorem dX9_users_38 : decode cX9_users 38 = .ok (.getfield 102, 3) := by decide +kernel
theorem dX9_users_41 : decode cX9_users 41 = .ok (.iload_n 3, 1) := by decide +kernel
theorem dX9_users_42 : decode cX9_users 42 = .ok (.iconst 4, 1) := by decide +kernel
theorem dX9_users_43 : decode cX9_users 43 = .ok (.invokevirtual 98, 3) := by decide +kernel
theorem dX9_users_46 : decode cX9_users 46 = .ok (.iload_n 1, 1) := by decide +kernel
theorem dX9_users_47 : decode cX9_users 47 = .ok (.if_icmp .ne 38, 3) := by decide +kernel
theorem dX9_users_50 : decode cX9_users 50 = .ok (.iinc 2 1, 3) := by decide +kernel
theorem dX9_users_53 : decode cX9_users 53 = .ok (.aload_n 0, 1) := by decide +kernel
theorem dX9_users_54 : decode cX9_users 54 = .ok (.getfield 54, 3) := by decide +kernel
theorem dX9_users_57 : decode cX9_users 57 = .ok (.aload_n 0, 1) := by decide +kernel
theorem dX9_users_58 : decode cX9_users 58 = .ok (.getfield 10, 3) := by decide +kernel
theorem dX9_users_61 : decode cX9_users 61 = .ok (.getfield 102, 3) := by decide +kernel
theorem dX9_users_64 : decode cX9_users 64 = .ok (.iload_n 3, 1) := by decide +kernel
theorem dX9_users_65 : decode cX9_users 65 = .ok (.iconst 2, 1) := by decide +kernel
theorem dX9_users_66 : decode cX9_users 66 = .ok (.invokevirtual 98, 3) := by decide +kernel
theorem dX9_users_69 : decode cX9_users 69 = .ok (.aload_n 0, 1) := by decide +kernel
theorem dX9_users_70 : decode cX9_users 70 = .ok (.getfield 10, 3) := by decide +kernel
theorem dX9_users_73 : decode cX9_users 73 = .ok (.getfield 102, 3) := by decide +kernel
theorem dX9_users_76 : decode cX9_users 76 = .ok (.iload_n 3, 1) := by decide +kernel
theorem dX9_users_77 : decode cX9_users 77 = .ok (.iconst 3, 1) := by decide +kernel
theorem dX9_users_78 : decode cX9_users 78 = .ok (.invokevirtual 98, 3) := by decide +kernel
theorem dX9_users_81 : decode cX9_users 81 = .ok (.iconst 1, 1) := by decide +kernel
theorem dX9_users_82 : decode cX9_users 82 = .ok (.invokevirtual 351, 3) := by decide +kernel
theorem dX9_users_85 : decode cX9_users 85 = .ok (.iinc 3 1, 3) := by decide +kernel
theorem dX9_users_88 : decode cX9_users 88 = .ok (.goto (-68), 3) := by decide +kernel
theorem dX9_users_91 : decode cX9_users 91 = .ok (.iconst 0, 1) := by decide +kernel
theorem dX9_users_92 : decode cX9_users 92 = .ok (.istore_n 3, 1) := by decide +kernel
theorem dX9_users_93 : decode cX9_users 93 = .ok (.iconst 0, 1) := by decide +kernel
theorem dX9_users_94 : decode cX9_users 94 = .ok (.istore 4, 2) := by decide +kernel
theorem dX9_users_96 : decode cX9_users 96 = .ok (.iload 4, 2) := by decide +kernel
theorem dX9_users_98 : decode cX9_users 98 = .ok (.aload_n 0, 1) := by decide +kernel
theorem dX9_users_99 : decode cX9_users 99 = .ok (.getfield 10, 3) := by decide +kernel
theorem dX9_users_102 : decode cX9_users 102 = .ok (.getfield 179, 3) := by decide +kernel
theorem dX9_users_105 : decode cX9_users 105 = .ok (.getfield 106, 3) := by decide +kernel
theorem dX9_users_108 : decode cX9_users 108 = .ok (.if_icmp .ge 65, 3) := by decide +kernel
theorem dX9_users_111 : decode cX9_users 111 = .ok (.aload_n 0, 1) := by decide +kernel
theorem dX9_users_112 : decode cX9_users 112 = .ok (.getfield 10, 3) := by decide +kernel
theorem dX9_users_115 : decode cX9_users 115 = .ok (.getfield 179, 3) := by decide +kernel
theorem dX9_users_118 : decode cX9_users 118 = .ok (.iload 4, 2) := by decide +kernel
theorem dX9_users_120 : decode cX9_users 120 = .ok (.iconst 0, 1) := by decide +kernel
theorem dX9_users_121 : decode cX9_users 121 = .ok (.invokevirtual 98, 3) := by decide +kernel
theorem dX9_users_124 : decode cX9_users 124 = .ok (.iload_n 1, 1) := by decide +kernel
theorem dX9_users_125 : decode cX9_users 125 = .ok (.if_icmp .ne 42, 3) := by decide +kernel
theorem dX9_users_128 : decode cX9_users 128 = .ok (.aload_n 0, 1) := by decide +kernel
theorem dX9_users_129 : decode cX9_users 129 = .ok (.getfield 54, 3) := by decide +kernel
theorem dX9_users_132 : decode cX9_users 132 = .ok (.aload_n 0, 1) := by decide +kernel
theorem dX9_users_133 : decode cX9_users 133 = .ok (.getfield 10, 3) := by decide +kernel
theorem dX9_users_136 : decode cX9_users 136 = .ok (.getfield 179, 3) := by decide +kernel
theorem dX9_users_139 : decode cX9_users 139 = .ok (.iload 4, 2) := by decide +kernel
theorem dX9_users_141 : decode cX9_users 141 = .ok (.iconst 2, 1) := by decide +kernel
theorem dX9_users_142 : decode cX9_users 142 = .ok (.invokevirtual 98, 3) := by decide +kernel
theorem dX9_users_145 : decode cX9_users 145 = .ok (.aload_n 0, 1) := by decide +kernel
theorem dX9_users_146 : decode cX9_users 146 = .ok (.getfield 10, 3) := by decide +kernel
theorem dX9_users_149 : decode cX9_users 149 = .ok (.getfield 179, 3) := by decide +kernel
theorem dX9_users_152 : decode cX9_users 152 = .ok (.iload 4, 2) := by decide +kernel
theorem dX9_users_154 : decode cX9_users 154 = .ok (.iconst 3, 1) := by decide +kernel
theorem dX9_users_155 : decode cX9_users 155 = .ok (.invokevirtual 98, 3) := by decide +kernel
theorem dX9_users_158 : decode cX9_users 158 = .ok (.invokevirtual 360, 3) := by decide +kernel
theorem dX9_users_161 : decode cX9_users 161 = .ok (.ifCond .ne 6, 3) := by decide +kernel
theorem dX9_users_164 : decode cX9_users 164 = .ok (.iinc 3 1, 3) := by decide +kernel
theorem dX9_users_167 : decode cX9_users 167 = .ok (.iinc 4 1, 3) := by decide +kernel
theorem dX9_users_170 : decode cX9_users 170 = .ok (.goto (-74), 3) := by decide +kernel
theorem dX9_users_173 : decode cX9_users 173 = .ok (.aload_n 0, 1) := by decide +kernel
theorem dX9_users_174 : decode cX9_users 174 = .ok (.getfield 40, 3) := by decide +kernel
theorem dX9_users_177 : decode cX9_users 177 = .ok (.aload_n 0, 1) := by decide +kernel
theorem dX9_users_178 : decode cX9_users 178 = .ok (.getfield 54, 3) := by decide +kernel
theorem dX9_users_181 : decode cX9_users 181 = .ok (.iconst 0, 1) := by decide +kernel
theorem dX9_users_182 : decode cX9_users 182 = .ok (.bipush 100, 2) := by decide +kernel
theorem dX9_users_184 : decode cX9_users 184 = .ok (.invokevirtual 360, 3) := by decide +kernel
theorem dX9_users_187 : decode cX9_users 187 = .ok (.i2l, 1) := by decide +kernel
theorem dX9_users_188 : decode cX9_users 188 = .ok (.iload_n 3, 1) := by decide +kernel
theorem dX9_users_189 : decode cX9_users 189 = .ok (.i2l, 1) := by decide +kernel
theorem dX9_users_190 : decode cX9_users 190 = .ok (.invokevirtual 182, 3) := by decide +kernel
theorem dX9_users_193 : decode cX9_users 193 = .ok (.iload_n 2, 1) := by decide +kernel
theorem dX9_users_194 : decode cX9_users 194 = .ok (.ireturn, 1) := by decide +kernel
theorem dX9_drags_0 : decode cX9_drags 0 = .ok (.iconst 1, 1) := by decide +kernel
theorem dX9_drags_1 : decode cX9_drags 1 = .ok (.iload_n 1, 1) := by decide +kernel
theorem dX9_drags_2 : decode cX9_drags 2 = .ok (.iload_n 2, 1) := by decide +kernel
theorem dX9_drags_3 : decode cX9_drags 3 = .ok (.iload_n 3, 1) := by decide +kernel
theorem dX9_drags_4 : decode cX9_drags 4 = .ok (.invokestatic 194, 3) := by decide +kernel
theorem dX9_drags_7 : decode cX9_drags 7 = .ok (.ifCond .ne 5, 3) := by decide +kernel
theorem dX9_drags_10 : decode cX9_drags 10 = .ok (.iconst (-1), 1) := by decide +kernel
theorem dX9_drags_11 : decode cX9_drags 11 = .ok (.ireturn, 1) := by decide +kernel
theorem dX9_drags_12 : decode cX9_drags 12 = .ok (.aload_n 0, 1) := by decide +kernel
theorem dX9_drags_13 : decode cX9_drags 13 = .ok (.getfield 10, 3) := by decide +kernel
theorem dX9_drags_16 : decode cX9_drags 16 = .ok (.getfield 179, 3) := by decide +kernel
theorem dX9_drags_19 : decode cX9_drags 19 = .ok (.iload_n 1, 1) := by decide +kernel
theorem dX9_drags_20 : decode cX9_drags 20 = .ok (.iload_n 2, 1) := by decide +kernel
theorem dX9_drags_21 : decode cX9_drags 21 = .ok (.iload_n 3, 1) := by decide +kernel
theorem dX9_drags_22 : decode cX9_drags 22 = .ok (.invokevirtual 201, 3) := by decide +kernel
theorem dX9_drags_25 : decode cX9_drags 25 = .ok (.ifCond .ne 6, 3) := by decide +kernel
theorem dX9_drags_28 : decode cX9_drags 28 = .ok (.bipush (-2), 2) := by decide +kernel
theorem dX9_drags_30 : decode cX9_drags 30 = .ok (.ireturn, 1) := by decide +kernel
theorem dX9_drags_31 : decode cX9_drags 31 = .ok (.iconst 0, 1) := by decide +kernel
theorem dX9_drags_32 : decode cX9_drags 32 = .ok (.istore 4, 2) := by decide +kernel
theorem dX9_drags_34 : decode cX9_drags 34 = .ok (.iconst 0, 1) := by decide +kernel
theorem dX9_drags_35 : decode cX9_drags 35 = .ok (.istore 5, 2) := by decide +kernel
theorem dX9_drags_37 : decode cX9_drags 37 = .ok (.iconst 0, 1) := by decide +kernel
theorem dX9_drags_38 : decode cX9_drags 38 = .ok (.istore 6, 2) := by decide +kernel
theorem dX9_drags_40 : decode cX9_drags 40 = .ok (.iload 6, 2) := by decide +kernel
theorem dX9_drags_42 : decode cX9_drags 42 = .ok (.aload_n 0, 1) := by decide +kernel
theorem dX9_drags_43 : decode cX9_drags 43 = .ok (.getfield 10, 3) := by decide +kernel
theorem dX9_drags_46 : decode cX9_drags 46 = .ok (.getfield 102, 3) := by decide +kernel
theorem dX9_drags_49 : decode cX9_drags 49 = .ok (.getfield 106, 3) := by decide +kernel
theorem dX9_drags_52 : decode cX9_drags 52 = .ok (.if_icmp .ge 57, 3) := by decide +kernel
theorem dX9_drags_55 : decode cX9_drags 55 = .ok (.aload_n 0, 1) := by decide +kernel
theorem dX9_drags_56 : decode cX9_drags 56 = .ok (.getfield 10, 3) := by decide +kernel
theorem dX9_drags_59 : decode cX9_drags 59 = .ok (.getfield 102, 3) := by decide +kernel
theorem dX9_drags_62 : decode cX9_drags 62 = .ok (.iload 6, 2) := by decide +kernel
theorem dX9_drags_64 : decode cX9_drags 64 = .ok (.iload_n 2, 1) := by decide +kernel
theorem dX9_drags_65 : decode cX9_drags 65 = .ok (.iload_n 3, 1) := by decide +kernel
theorem dX9_drags_66 : decode cX9_drags 66 = .ok (.invokevirtual 297, 3) := by decide +kernel
theorem dX9_drags_69 : decode cX9_drags 69 = .ok (.istore 7, 2) := by decide +kernel
theorem dX9_drags_71 : decode cX9_drags 71 = .ok (.aload_n 0, 1) := by decide +kernel
theorem dX9_drags_72 : decode cX9_drags 72 = .ok (.getfield 10, 3) := by decide +kernel
theorem dX9_drags_75 : decode cX9_drags 75 = .ok (.getfield 102, 3) := by decide +kernel
theorem dX9_drags_78 : decode cX9_drags 78 = .ok (.iload 6, 2) := by decide +kernel
theorem dX9_drags_80 : decode cX9_drags 80 = .ok (.iconst 4, 1) := by decide +kernel
theorem dX9_drags_81 : decode cX9_drags 81 = .ok (.invokevirtual 98, 3) := by decide +kernel
theorem dX9_drags_84 : decode cX9_drags 84 = .ok (.iload_n 1, 1) := by decide +kernel
theorem dX9_drags_85 : decode cX9_drags 85 = .ok (.if_icmp .ne 18, 3) := by decide +kernel
theorem dX9_drags_88 : decode cX9_drags 88 = .ok (.iload 7, 2) := by decide +kernel
theorem dX9_drags_90 : decode cX9_drags 90 = .ok (.ifCond .le 13, 3) := by decide +kernel
theorem dX9_drags_93 : decode cX9_drags 93 = .ok (.iload 4, 2) := by decide +kernel
theorem dX9_drags_95 : decode cX9_drags 95 = .ok (.iload 7, 2) := by decide +kernel
theorem dX9_drags_97 : decode cX9_drags 97 = .ok (.iadd, 1) := by decide +kernel
theorem dX9_drags_98 : decode cX9_drags 98 = .ok (.istore 4, 2) := by decide +kernel
theorem dX9_drags_100 : decode cX9_drags 100 = .ok (.iinc 5 1, 3) := by decide +kernel
theorem dX9_drags_103 : decode cX9_drags 103 = .ok (.iinc 6 1, 3) := by decide +kernel
theorem dX9_drags_106 : decode cX9_drags 106 = .ok (.goto (-66), 3) := by decide +kernel
theorem dX9_drags_109 : decode cX9_drags 109 = .ok (.aload_n 0, 1) := by decide +kernel
theorem dX9_drags_110 : decode cX9_drags 110 = .ok (.getfield 40, 3) := by decide +kernel
theorem dX9_drags_113 : decode cX9_drags 113 = .ok (.iload 5, 2) := by decide +kernel
theorem dX9_drags_115 : decode cX9_drags 115 = .ok (.i2l, 1) := by decide +kernel
theorem dX9_drags_116 : decode cX9_drags 116 = .ok (.invokevirtual 229, 3) := by decide +kernel
theorem dX9_drags_119 : decode cX9_drags 119 = .ok (.iload 4, 2) := by decide +kernel
theorem dX9_drags_121 : decode cX9_drags 121 = .ok (.ireturn, 1) := by decide +kernel
theorem dX9_where_0 : decode cX9_where 0 = .ok (.aload_n 0, 1) := by decide +kernel
theorem dX9_where_1 : decode cX9_where 1 = .ok (.getfield 71, 3) := by decide +kernel
theorem dX9_where_4 : decode cX9_where 4 = .ok (.aload_n 0, 1) := by decide +kernel
theorem dX9_where_5 : decode cX9_where 5 = .ok (.getfield 33, 3) := by decide +kernel
theorem dX9_where_8 : decode cX9_where 8 = .ok (.invokevirtual 363, 3) := by decide +kernel
theorem dX9_where_11 : decode cX9_where 11 = .ok (.istore_n 2, 1) := by decide +kernel
theorem dX9_where_12 : decode cX9_where 12 = .ok (.aload_n 0, 1) := by decide +kernel
theorem dX9_where_13 : decode cX9_where 13 = .ok (.getfield 33, 3) := by decide +kernel
theorem dX9_where_16 : decode cX9_where 16 = .ok (.invokevirtual 158, 3) := by decide +kernel
theorem dX9_where_19 : decode cX9_where 19 = .ok (.iload_n 2, 1) := by decide +kernel
theorem dX9_where_20 : decode cX9_where 20 = .ok (.ifCond .lt 9, 3) := by decide +kernel
theorem dX9_where_23 : decode cX9_where 23 = .ok (.sipush (-1000), 3) := by decide +kernel
theorem dX9_where_26 : decode cX9_where 26 = .ok (.iload_n 2, 1) := by decide +kernel
theorem dX9_where_27 : decode cX9_where 27 = .ok (.isub, 1) := by decide +kernel
theorem dX9_where_28 : decode cX9_where 28 = .ok (.ireturn, 1) := by decide +kernel
theorem dX9_where_29 : decode cX9_where 29 = .ok (.iload_n 1, 1) := by decide +kernel
theorem dX9_where_30 : decode cX9_where 30 = .ok (.invokestatic 83, 3) := by decide +kernel
theorem dX9_where_33 : decode cX9_where 33 = .ok (.ifCond .ne 5, 3) := by decide +kernel
theorem dX9_where_36 : decode cX9_where 36 = .ok (.iconst (-1), 1) := by decide +kernel
theorem dX9_where_37 : decode cX9_where 37 = .ok (.ireturn, 1) := by decide +kernel
theorem dX9_where_38 : decode cX9_where 38 = .ok (.aload_n 0, 1) := by decide +kernel
theorem dX9_where_39 : decode cX9_where 39 = .ok (.getfield 10, 3) := by decide +kernel
theorem dX9_where_42 : decode cX9_where 42 = .ok (.iload_n 1, 1) := by decide +kernel
theorem dX9_where_43 : decode cX9_where 43 = .ok (.invokevirtual 86, 3) := by decide +kernel
theorem dX9_where_46 : decode cX9_where 46 = .ok (.astore_n 3, 1) := by decide +kernel
theorem dX9_where_47 : decode cX9_where 47 = .ok (.iconst 0, 1) := by decide +kernel
theorem dX9_where_48 : decode cX9_where 48 = .ok (.istore 4, 2) := by decide +kernel
theorem dX9_where_50 : decode cX9_where 50 = .ok (.iconst 0, 1) := by decide +kernel
theorem dX9_where_51 : decode cX9_where 51 = .ok (.istore 5, 2) := by decide +kernel
theorem dX9_where_53 : decode cX9_where 53 = .ok (.iconst 0, 1) := by decide +kernel
theorem dX9_where_54 : decode cX9_where 54 = .ok (.istore 6, 2) := by decide +kernel
theorem dX9_where_56 : decode cX9_where 56 = .ok (.iconst 0, 1) := by decide +kernel
theorem dX9_where_57 : decode cX9_where 57 = .ok (.istore 7, 2) := by decide +kernel
theorem dX9_where_59 : decode cX9_where 59 = .ok (.iload 7, 2) := by decide +kernel
theorem dX9_where_61 : decode cX9_where 61 = .ok (.aload_n 3, 1) := by decide +kernel
theorem dX9_where_62 : decode cX9_where 62 = .ok (.getfield 106, 3) := by decide +kernel
theorem dX9_where_65 : decode cX9_where 65 = .ok (.if_icmp .ge 53, 3) := by decide +kernel
theorem dX9_where_68 : decode cX9_where 68 = .ok (.aload_n 0, 1) := by decide +kernel
theorem dX9_where_69 : decode cX9_where 69 = .ok (.getfield 71, 3) := by decide +kernel
theorem dX9_where_72 : decode cX9_where 72 = .ok (.aload_n 3, 1) := by decide +kernel
theorem dX9_where_73 : decode cX9_where 73 = .ok (.iload 7, 2) := by decide +kernel
theorem dX9_where_75 : decode cX9_where 75 = .ok (.invokevirtual 367, 3) := by decide +kernel
theorem dX9_where_78 : decode cX9_where 78 = .ok (.istore 8, 2) := by decide +kernel
theorem dX9_where_80 : decode cX9_where 80 = .ok (.iload 6, 2) := by decide +kernel
theorem dX9_where_82 : decode cX9_where 82 = .ok (.iload 8, 2) := by decide +kernel
theorem dX9_where_84 : decode cX9_where 84 = .ok (.iadd, 1) := by decide +kernel
theorem dX9_where_85 : decode cX9_where 85 = .ok (.istore 6, 2) := by decide +kernel
theorem dX9_where_87 : decode cX9_where 87 = .ok (.iload 8, 2) := by decide +kernel
theorem dX9_where_89 : decode cX9_where 89 = .ok (.ifCond .le 23, 3) := by decide +kernel
theorem dX9_where_92 : decode cX9_where 92 = .ok (.iload 4, 2) := by decide +kernel
theorem dX9_where_94 : decode cX9_where 94 = .ok (.iconst 1, 1) := by decide +kernel
theorem dX9_where_95 : decode cX9_where 95 = .ok (.iload 7, 2) := by decide +kernel
theorem dX9_where_97 : decode cX9_where 97 = .ok (.ishl, 1) := by decide +kernel
theorem dX9_where_98 : decode cX9_where 98 = .ok (.ior, 1) := by decide +kernel
theorem dX9_where_99 : decode cX9_where 99 = .ok (.istore 4, 2) := by decide +kernel
theorem dX9_where_101 : decode cX9_where 101 = .ok (.iload 5, 2) := by decide +kernel
theorem dX9_where_103 : decode cX9_where 103 = .ok (.aload_n 3, 1) := by decide +kernel
theorem dX9_where_104 : decode cX9_where 104 = .ok (.iload 7, 2) := by decide +kernel
theorem dX9_where_106 : decode cX9_where 106 = .ok (.invokevirtual 318, 3) := by decide +kernel
theorem dX9_where_109 : decode cX9_where 109 = .ok (.iadd, 1) := by decide +kernel
theorem dX9_where_110 : decode cX9_where 110 = .ok (.istore 5, 2) := by decide +kernel
theorem dX9_where_112 : decode cX9_where 112 = .ok (.iinc 7 1, 3) := by decide +kernel
theorem dX9_where_115 : decode cX9_where 115 = .ok (.goto (-56), 3) := by decide +kernel
theorem dX9_where_118 : decode cX9_where 118 = .ok (.aload_n 0, 1) := by decide +kernel
theorem dX9_where_119 : decode cX9_where 119 = .ok (.getfield 40, 3) := by decide +kernel
theorem dX9_where_122 : decode cX9_where 122 = .ok (.iload 4, 2) := by decide +kernel
theorem dX9_where_124 : decode cX9_where 124 = .ok (.invokestatic 370, 3) := by decide +kernel
theorem dX9_where_127 : decode cX9_where 127 = .ok (.i2l, 1) := by decide +kernel
theorem dX9_where_128 : decode cX9_where 128 = .ok (.iload 5, 2) := by decide +kernel
theorem dX9_where_130 : decode cX9_where 130 = .ok (.i2l, 1) := by decide +kernel
theorem dX9_where_131 : decode cX9_where 131 = .ok (.iload 6, 2) := by decide +kernel
theorem dX9_where_133 : decode cX9_where 133 = .ok (.i2l, 1) := by decide +kernel
theorem dX9_where_134 : decode cX9_where 134 = .ok (.invokevirtual 293, 3) := by decide +kernel
theorem dX9_where_137 : decode cX9_where 137 = .ok (.iload 4, 2) := by decide +kernel
theorem dX9_where_139 : decode cX9_where 139 = .ok (.ireturn, 1) := by decide +kernel
theorem dX9_differs_0 : decode cX9_differs 0 = .ok (.iload_n 1, 1) := by decide +kernel
theorem dX9_differs_1 : decode cX9_differs 1 = .ok (.invokestatic 83, 3) := by decide +kernel
theorem dX9_differs_4 : decode cX9_differs 4 = .ok (.ifCond .eq 10, 3) := by decide +kernel
theorem dX9_differs_7 : decode cX9_differs 7 = .ok (.iload_n 2, 1) := by decide +kernel
theorem dX9_differs_8 : decode cX9_differs 8 = .ok (.invokestatic 375, 3) := by decide +kernel
theorem dX9_differs_11 : decode cX9_differs 11 = .ok (.ifCond .ne 5, 3) := by decide +kernel
theorem dX9_differs_14 : decode cX9_differs 14 = .ok (.iconst (-1), 1) := by decide +kernel
theorem dX9_differs_15 : decode cX9_differs 15 = .ok (.ireturn, 1) := by decide +kernel
theorem dX9_differs_16 : decode cX9_differs 16 = .ok (.aload_n 0, 1) := by decide +kernel
theorem dX9_differs_17 : decode cX9_differs 17 = .ok (.getfield 26, 3) := by decide +kernel
theorem dX9_differs_20 : decode cX9_differs 20 = .ok (.iload_n 2, 1) := by decide +kernel
theorem dX9_differs_21 : decode cX9_differs 21 = .ok (.aaload, 1) := by decide +kernel
theorem dX9_differs_22 : decode cX9_differs 22 = .ok (.getfield 378, 3) := by decide +kernel
theorem dX9_differs_25 : decode cX9_differs 25 = .ok (.ifCond .ne 6, 3) := by decide +kernel
theorem dX9_differs_28 : decode cX9_differs 28 = .ok (.bipush (-2), 2) := by decide +kernel
theorem dX9_differs_30 : decode cX9_differs 30 = .ok (.ireturn, 1) := by decide +kernel
theorem dX9_differs_31 : decode cX9_differs 31 = .ok (.aload_n 0, 1) := by decide +kernel
theorem dX9_differs_32 : decode cX9_differs 32 = .ok (.getfield 58, 3) := by decide +kernel
theorem dX9_differs_35 : decode cX9_differs 35 = .ok (.invokevirtual 251, 3) := by decide +kernel
theorem dX9_differs_38 : decode cX9_differs 38 = .ok (.iconst 0, 1) := by decide +kernel
theorem dX9_differs_39 : decode cX9_differs 39 = .ok (.istore_n 3, 1) := by decide +kernel
theorem dX9_differs_40 : decode cX9_differs 40 = .ok (.iload_n 3, 1) := by decide +kernel
theorem dX9_differs_41 : decode cX9_differs 41 = .ok (.bipush 10, 2) := by decide +kernel
theorem dX9_differs_43 : decode cX9_differs 43 = .ok (.if_icmp .ge 32, 3) := by decide +kernel
theorem dX9_differs_46 : decode cX9_differs 46 = .ok (.aload_n 0, 1) := by decide +kernel
theorem dX9_differs_47 : decode cX9_differs 47 = .ok (.aload_n 0, 1) := by decide +kernel
theorem dX9_differs_48 : decode cX9_differs 48 = .ok (.getfield 10, 3) := by decide +kernel
theorem dX9_differs_51 : decode cX9_differs 51 = .ok (.iload_n 1, 1) := by decide +kernel
theorem dX9_differs_52 : decode cX9_differs 52 = .ok (.invokevirtual 86, 3) := by decide +kernel
theorem dX9_differs_55 : decode cX9_differs 55 = .ok (.aload_n 0, 1) := by decide +kernel
theorem dX9_differs_56 : decode cX9_differs 56 = .ok (.getfield 26, 3) := by decide +kernel
theorem dX9_differs_59 : decode cX9_differs 59 = .ok (.iload_n 2, 1) := by decide +kernel
theorem dX9_differs_60 : decode cX9_differs 60 = .ok (.aaload, 1) := by decide +kernel
theorem dX9_differs_61 : decode cX9_differs 61 = .ok (.iload_n 1, 1) := by decide +kernel
theorem dX9_differs_62 : decode cX9_differs 62 = .ok (.invokevirtual 86, 3) := by decide +kernel
theorem dX9_differs_65 : decode cX9_differs 65 = .ok (.iload_n 3, 1) := by decide +kernel
theorem dX9_differs_66 : decode cX9_differs 66 = .ok (.invokevirtual 382, 3) := by decide +kernel
theorem dX9_differs_69 : decode cX9_differs 69 = .ok (.iinc 3 1, 3) := by decide +kernel
theorem dX9_differs_72 : decode cX9_differs 72 = .ok (.goto (-32), 3) := by decide +kernel
theorem dX9_differs_75 : decode cX9_differs 75 = .ok (.aload_n 0, 1) := by decide +kernel
theorem dX9_differs_76 : decode cX9_differs 76 = .ok (.getfield 58, 3) := by decide +kernel
theorem dX9_differs_79 : decode cX9_differs 79 = .ok (.iconst 0, 1) := by decide +kernel
theorem dX9_differs_80 : decode cX9_differs 80 = .ok (.bipush 100, 2) := by decide +kernel
theorem dX9_differs_82 : decode cX9_differs 82 = .ok (.invokevirtual 360, 3) := by decide +kernel
theorem dX9_differs_85 : decode cX9_differs 85 = .ok (.istore_n 3, 1) := by decide +kernel
theorem dX9_differs_86 : decode cX9_differs 86 = .ok (.aload_n 0, 1) := by decide +kernel
theorem dX9_differs_87 : decode cX9_differs 87 = .ok (.getfield 40, 3) := by decide +kernel
theorem dX9_differs_90 : decode cX9_differs 90 = .ok (.invokevirtual 296, 3) := by decide +kernel
theorem dX9_differs_93 : decode cX9_differs 93 = .ok (.iconst 0, 1) := by decide +kernel
theorem dX9_differs_94 : decode cX9_differs 94 = .ok (.istore 4, 2) := by decide +kernel
theorem dX9_differs_96 : decode cX9_differs 96 = .ok (.iload 4, 2) := by decide +kernel
theorem dX9_differs_98 : decode cX9_differs 98 = .ok (.bipush 100, 2) := by decide +kernel
theorem dX9_differs_100 : decode cX9_differs 100 = .ok (.if_icmp .ge 45, 3) := by decide +kernel
theorem dX9_differs_103 : decode cX9_differs 103 = .ok (.iload_n 3, 1) := by decide +kernel
theorem dX9_differs_104 : decode cX9_differs 104 = .ok (.ifCond .le 41, 3) := by decide +kernel
theorem dX9_differs_107 : decode cX9_differs 107 = .ok (.aload_n 0, 1) := by decide +kernel
theorem dX9_differs_108 : decode cX9_differs 108 = .ok (.getfield 40, 3) := by decide +kernel
theorem dX9_differs_111 : decode cX9_differs 111 = .ok (.getfield 386, 3) := by decide +kernel
theorem dX9_differs_114 : decode cX9_differs 114 = .ok (.ifCond .ne 31, 3) := by decide +kernel
theorem dX9_differs_117 : decode cX9_differs 117 = .ok (.aload_n 0, 1) := by decide +kernel
theorem dX9_differs_118 : decode cX9_differs 118 = .ok (.getfield 58, 3) := by decide +kernel
theorem dX9_differs_121 : decode cX9_differs 121 = .ok (.iload 4, 2) := by decide +kernel
theorem dX9_differs_123 : decode cX9_differs 123 = .ok (.invokevirtual 264, 3) := by decide +kernel
theorem dX9_differs_126 : decode cX9_differs 126 = .ok (.ifCond .le 13, 3) := by decide +kernel
theorem dX9_differs_129 : decode cX9_differs 129 = .ok (.aload_n 0, 1) := by decide +kernel
theorem dX9_differs_130 : decode cX9_differs 130 = .ok (.getfield 40, 3) := by decide +kernel
theorem dX9_differs_133 : decode cX9_differs 133 = .ok (.iload 4, 2) := by decide +kernel
theorem dX9_differs_135 : decode cX9_differs 135 = .ok (.i2l, 1) := by decide +kernel
theorem dX9_differs_136 : decode cX9_differs 136 = .ok (.invokevirtual 300, 3) := by decide +kernel
theorem dX9_differs_139 : decode cX9_differs 139 = .ok (.iinc 4 1, 3) := by decide +kernel
theorem dX9_differs_142 : decode cX9_differs 142 = .ok (.goto (-46), 3) := by decide +kernel
theorem dX9_differs_145 : decode cX9_differs 145 = .ok (.iload_n 3, 1) := by decide +kernel
theorem dX9_differs_146 : decode cX9_differs 146 = .ok (.ireturn, 1) := by decide +kernel
theorem dX9_flagDifferences_0 : decode cX9_flagDifferences 0 = .ok (.aload_n 0, 1) := by decide +kernel
theorem dX9_flagDifferences_1 : decode cX9_flagDifferences 1 = .ok (.getfield 54, 3) := by decide +kernel
theorem dX9_flagDifferences_4 : decode cX9_flagDifferences 4 = .ok (.invokevirtual 251, 3) := by decide +kernel
theorem dX9_flagDifferences_7 : decode cX9_flagDifferences 7 = .ok (.aload_n 0, 1) := by decide +kernel
theorem dX9_flagDifferences_8 : decode cX9_flagDifferences 8 = .ok (.getfield 54, 3) := by decide +kernel
theorem dX9_flagDifferences_11 : decode cX9_flagDifferences 11 = .ok (.aload_n 1, 1) := by decide +kernel
theorem dX9_flagDifferences_12 : decode cX9_flagDifferences 12 = .ok (.iload_n 3, 1) := by decide +kernel
theorem dX9_flagDifferences_13 : decode cX9_flagDifferences 13 = .ok (.iconst 1, 1) := by decide +kernel
theorem dX9_flagDifferences_14 : decode cX9_flagDifferences 14 = .ok (.invokevirtual 387, 3) := by decide +kernel
theorem dX9_flagDifferences_17 : decode cX9_flagDifferences 17 = .ok (.aload_n 0, 1) := by decide +kernel
theorem dX9_flagDifferences_18 : decode cX9_flagDifferences 18 = .ok (.getfield 54, 3) := by decide +kernel
theorem dX9_flagDifferences_21 : decode cX9_flagDifferences 21 = .ok (.aload_n 2, 1) := by decide +kernel
theorem dX9_flagDifferences_22 : decode cX9_flagDifferences 22 = .ok (.iload_n 3, 1) := by decide +kernel
theorem dX9_flagDifferences_23 : decode cX9_flagDifferences 23 = .ok (.iconst (-1), 1) := by decide +kernel
theorem dX9_flagDifferences_24 : decode cX9_flagDifferences 24 = .ok (.invokevirtual 387, 3) := by decide +kernel
theorem dX9_flagDifferences_27 : decode cX9_flagDifferences 27 = .ok (.iconst 0, 1) := by decide +kernel
theorem dX9_flagDifferences_28 : decode cX9_flagDifferences 28 = .ok (.istore 4, 2) := by decide +kernel
theorem dX9_flagDifferences_30 : decode cX9_flagDifferences 30 = .ok (.iload 4, 2) := by decide +kernel
theorem dX9_flagDifferences_32 : decode cX9_flagDifferences 32 = .ok (.bipush 100, 2) := by decide +kernel
theorem dX9_flagDifferences_34 : decode cX9_flagDifferences 34 = .ok (.if_icmp .ge 35, 3) := by decide +kernel
theorem dX9_flagDifferences_37 : decode cX9_flagDifferences 37 = .ok (.aload_n 0, 1) := by decide +kernel
theorem dX9_flagDifferences_38 : decode cX9_flagDifferences 38 = .ok (.getfield 54, 3) := by decide +kernel
theorem dX9_flagDifferences_41 : decode cX9_flagDifferences 41 = .ok (.iload 4, 2) := by decide +kernel
theorem dX9_flagDifferences_43 : decode cX9_flagDifferences 43 = .ok (.invokevirtual 264, 3) := by decide +kernel
theorem dX9_flagDifferences_46 : decode cX9_flagDifferences 46 = .ok (.ifCond .eq 17, 3) := by decide +kernel
theorem dX9_flagDifferences_49 : decode cX9_flagDifferences 49 = .ok (.aload_n 0, 1) := by decide +kernel
theorem dX9_flagDifferences_50 : decode cX9_flagDifferences 50 = .ok (.getfield 58, 3) := by decide +kernel
theorem dX9_flagDifferences_53 : decode cX9_flagDifferences 53 = .ok (.iload 4, 2) := by decide +kernel
theorem dX9_flagDifferences_55 : decode cX9_flagDifferences 55 = .ok (.iload 4, 2) := by decide +kernel
theorem dX9_flagDifferences_57 : decode cX9_flagDifferences 57 = .ok (.iconst 1, 1) := by decide +kernel
theorem dX9_flagDifferences_58 : decode cX9_flagDifferences 58 = .ok (.iadd, 1) := by decide +kernel
theorem dX9_flagDifferences_59 : decode cX9_flagDifferences 59 = .ok (.iconst 1, 1) := by decide +kernel
theorem dX9_flagDifferences_60 : decode cX9_flagDifferences 60 = .ok (.invokevirtual 351, 3) := by decide +kernel
theorem dX9_flagDifferences_63 : decode cX9_flagDifferences 63 = .ok (.iinc 4 1, 3) := by decide +kernel
theorem dX9_flagDifferences_66 : decode cX9_flagDifferences 66 = .ok (.goto (-36), 3) := by decide +kernel
theorem dX9_flagDifferences_69 : decode cX9_flagDifferences 69 = .ok (.return_, 1) := by decide +kernel
theorem dX9_heard_0 : decode cX9_heard 0 = .ok (.iload_n 1, 1) := by decide +kernel
theorem dX9_heard_1 : decode cX9_heard 1 = .ok (.iconst 3, 1) := by decide +kernel
theorem dX9_heard_2 : decode cX9_heard 2 = .ok (.if_icmp .ne 20, 3) := by decide +kernel
theorem dX9_heard_5 : decode cX9_heard 5 = .ok (.iload_n 2, 1) := by decide +kernel
theorem dX9_heard_6 : decode cX9_heard 6 = .ok (.ifCond .eq 8, 3) := by decide +kernel
theorem dX9_heard_9 : decode cX9_heard 9 = .ok (.iload_n 2, 1) := by decide +kernel
theorem dX9_heard_10 : decode cX9_heard 10 = .ok (.iconst 1, 1) := by decide +kernel
theorem dX9_heard_11 : decode cX9_heard 11 = .ok (.if_icmp .ne 7, 3) := by decide +kernel
theorem dX9_heard_14 : decode cX9_heard 14 = .ok (.iconst 1, 1) := by decide +kernel
theorem dX9_heard_15 : decode cX9_heard 15 = .ok (.goto 31, 3) := by decide +kernel
theorem dX9_heard_18 : decode cX9_heard 18 = .ok (.iconst 0, 1) := by decide +kernel
theorem dX9_heard_19 : decode cX9_heard 19 = .ok (.goto 27, 3) := by decide +kernel
theorem dX9_heard_22 : decode cX9_heard 22 = .ok (.iload_n 1, 1) := by decide +kernel
theorem dX9_heard_23 : decode cX9_heard 23 = .ok (.ifCond .lt 22, 3) := by decide +kernel
theorem dX9_heard_26 : decode cX9_heard 26 = .ok (.iload_n 1, 1) := by decide +kernel
theorem dX9_heard_27 : decode cX9_heard 27 = .ok (.iconst 2, 1) := by decide +kernel
theorem dX9_heard_28 : decode cX9_heard 28 = .ok (.if_icmp .gt 17, 3) := by decide +kernel
theorem dX9_heard_31 : decode cX9_heard 31 = .ok (.iload_n 2, 1) := by decide +kernel
theorem dX9_heard_32 : decode cX9_heard 32 = .ok (.ifCond .lt 13, 3) := by decide +kernel
theorem dX9_heard_35 : decode cX9_heard 35 = .ok (.iload_n 2, 1) := by decide +kernel
theorem dX9_heard_36 : decode cX9_heard 36 = .ok (.bipush 9, 2) := by decide +kernel
theorem dX9_heard_38 : decode cX9_heard 38 = .ok (.if_icmp .gt 7, 3) := by decide +kernel
theorem dX9_heard_41 : decode cX9_heard 41 = .ok (.iconst 1, 1) := by decide +kernel
theorem dX9_heard_42 : decode cX9_heard 42 = .ok (.goto 4, 3) := by decide +kernel
theorem dX9_heard_45 : decode cX9_heard 45 = .ok (.iconst 0, 1) := by decide +kernel
theorem dX9_heard_46 : decode cX9_heard 46 = .ok (.istore_n 3, 1) := by decide +kernel
theorem dX9_heard_47 : decode cX9_heard 47 = .ok (.iload_n 3, 1) := by decide +kernel
theorem dX9_heard_48 : decode cX9_heard 48 = .ok (.ifCond .eq 19, 3) := by decide +kernel
theorem dX9_heard_51 : decode cX9_heard 51 = .ok (.aload_n 0, 1) := by decide +kernel
theorem dX9_heard_52 : decode cX9_heard 52 = .ok (.getfield 47, 3) := by decide +kernel
theorem dX9_heard_55 : decode cX9_heard 55 = .ok (.iload_n 1, 1) := by decide +kernel
theorem dX9_heard_56 : decode cX9_heard 56 = .ok (.bipush 10, 2) := by decide +kernel
theorem dX9_heard_58 : decode cX9_heard 58 = .ok (.imul, 1) := by decide +kernel
theorem dX9_heard_59 : decode cX9_heard 59 = .ok (.iload_n 2, 1) := by decide +kernel
theorem dX9_heard_60 : decode cX9_heard 60 = .ok (.iadd, 1) := by decide +kernel
theorem dX9_heard_61 : decode cX9_heard 61 = .ok (.invokevirtual 390, 3) := by decide +kernel
theorem dX9_heard_64 : decode cX9_heard 64 = .ok (.ifCond .ne 5, 3) := by decide +kernel
theorem dX9_heard_67 : decode cX9_heard 67 = .ok (.iconst (-1), 1) := by decide +kernel
theorem dX9_heard_68 : decode cX9_heard 68 = .ok (.ireturn, 1) := by decide +kernel
theorem dX9_heard_69 : decode cX9_heard 69 = .ok (.aload_n 0, 1) := by decide +kernel
theorem dX9_heard_70 : decode cX9_heard 70 = .ok (.getfield 47, 3) := by decide +kernel
theorem dX9_heard_73 : decode cX9_heard 73 = .ok (.getfield 392, 3) := by decide +kernel
theorem dX9_heard_76 : decode cX9_heard 76 = .ok (.ireturn, 1) := by decide +kernel
theorem dX9_denies_0 : decode cX9_denies 0 = .ok (.aload_n 0, 1) := by decide +kernel
theorem dX9_denies_1 : decode cX9_denies 1 = .ok (.getfield 47, 3) := by decide +kernel
theorem dX9_denies_4 : decode cX9_denies 4 = .ok (.getfield 392, 3) := by decide +kernel
theorem dX9_denies_7 : decode cX9_denies 7 = .ok (.istore_n 1, 1) := by decide +kernel
theorem dX9_denies_8 : decode cX9_denies 8 = .ok (.aload_n 0, 1) := by decide +kernel
theorem dX9_denies_9 : decode cX9_denies 9 = .ok (.getfield 47, 3) := by decide +kernel
theorem dX9_denies_12 : decode cX9_denies 12 = .ok (.iconst 0, 1) := by decide +kernel
theorem dX9_denies_13 : decode cX9_denies 13 = .ok (.putfield 392, 3) := by decide +kernel
theorem dX9_denies_16 : decode cX9_denies 16 = .ok (.iload_n 1, 1) := by decide +kernel
theorem dX9_denies_17 : decode cX9_denies 17 = .ok (.ireturn, 1) := by decide +kernel
theorem dX9_fits_0 : decode cX9_fits 0 = .ok (.aload_n 0, 1) := by decide +kernel
theorem dX9_fits_1 : decode cX9_fits 1 = .ok (.invokevirtual 393, 3) := by decide +kernel
theorem dX9_fits_4 : decode cX9_fits 4 = .ok (.istore_n 1, 1) := by decide +kernel
theorem dX9_fits_5 : decode cX9_fits 5 = .ok (.aload_n 0, 1) := by decide +kernel
theorem dX9_fits_6 : decode cX9_fits 6 = .ok (.getfield 40, 3) := by decide +kernel
theorem dX9_fits_9 : decode cX9_fits 9 = .ok (.iload_n 1, 1) := by decide +kernel
theorem dX9_fits_10 : decode cX9_fits 10 = .ok (.invokestatic 370, 3) := by decide +kernel
theorem dX9_fits_13 : decode cX9_fits 13 = .ok (.i2l, 1) := by decide +kernel
theorem dX9_fits_14 : decode cX9_fits 14 = .ok (.invokevirtual 229, 3) := by decide +kernel
theorem dX9_fits_17 : decode cX9_fits 17 = .ok (.iload_n 1, 1) := by decide +kernel
theorem dX9_fits_18 : decode cX9_fits 18 = .ok (.ireturn, 1) := by decide +kernel
theorem dX9_asks_0 : decode cX9_asks 0 = .ok (.aload_n 0, 1) := by decide +kernel
theorem dX9_asks_1 : decode cX9_asks 1 = .ok (.invokevirtual 393, 3) := by decide +kernel
theorem dX9_asks_4 : decode cX9_asks 4 = .ok (.istore_n 1, 1) := by decide +kernel
theorem dX9_asks_5 : decode cX9_asks 5 = .ok (.iload_n 1, 1) := by decide +kernel
theorem dX9_asks_6 : decode cX9_asks 6 = .ok (.invokestatic 370, 3) := by decide +kernel
theorem dX9_asks_9 : decode cX9_asks 9 = .ok (.istore_n 2, 1) := by decide +kernel
theorem dX9_asks_10 : decode cX9_asks 10 = .ok (.iload_n 2, 1) := by decide +kernel
theorem dX9_asks_11 : decode cX9_asks 11 = .ok (.ifCond .ne 6, 3) := by decide +kernel
theorem dX9_asks_14 : decode cX9_asks 14 = .ok (.bipush (-2), 2) := by decide +kernel
theorem dX9_asks_16 : decode cX9_asks 16 = .ok (.ireturn, 1) := by decide +kernel
theorem dX9_asks_17 : decode cX9_asks 17 = .ok (.iconst 0, 1) := by decide +kernel
theorem dX9_asks_18 : decode cX9_asks 18 = .ok (.istore_n 3, 1) := by decide +kernel
theorem dX9_asks_19 : decode cX9_asks 19 = .ok (.iload_n 2, 1) := by decide +kernel
theorem dX9_asks_20 : decode cX9_asks 20 = .ok (.iconst 1, 1) := by decide +kernel
theorem dX9_asks_21 : decode cX9_asks 21 = .ok (.iadd, 1) := by decide +kernel
theorem dX9_asks_22 : decode cX9_asks 22 = .ok (.istore 4, 2) := by decide +kernel
theorem dX9_asks_24 : decode cX9_asks 24 = .ok (.iconst 0, 1) := by decide +kernel
theorem dX9_asks_25 : decode cX9_asks 25 = .ok (.istore 5, 2) := by decide +kernel
theorem dX9_asks_27 : decode cX9_asks 27 = .ok (.iload 5, 2) := by decide +kernel
theorem dX9_asks_29 : decode cX9_asks 29 = .ok (.bipush 32, 2) := by decide +kernel
theorem dX9_asks_31 : decode cX9_asks 31 = .ok (.if_icmp .ge 47, 3) := by decide +kernel
theorem dX9_asks_34 : decode cX9_asks 34 = .ok (.iload_n 1, 1) := by decide +kernel
theorem dX9_asks_35 : decode cX9_asks 35 = .ok (.aload_n 0, 1) := by decide +kernel
theorem dX9_asks_36 : decode cX9_asks 36 = .ok (.iload 5, 2) := by decide +kernel
theorem dX9_asks_38 : decode cX9_asks 38 = .ok (.invokevirtual 396, 3) := by decide +kernel
theorem dX9_asks_41 : decode cX9_asks 41 = .ok (.iand, 1) := by decide +kernel
theorem dX9_asks_42 : decode cX9_asks 42 = .ok (.invokestatic 370, 3) := by decide +kernel
theorem dX9_asks_45 : decode cX9_asks 45 = .ok (.istore 6, 2) := by decide +kernel
theorem dX9_asks_47 : decode cX9_asks 47 = .ok (.iload 6, 2) := by decide +kernel
theorem dX9_asks_49 : decode cX9_asks 49 = .ok (.iload_n 2, 1) := by decide +kernel
theorem dX9_asks_50 : decode cX9_asks 50 = .ok (.iload 6, 2) := by decide +kernel
theorem dX9_asks_52 : decode cX9_asks 52 = .ok (.isub, 1) := by decide +kernel
theorem dX9_asks_53 : decode cX9_asks 53 = .ok (.invokestatic 119, 3) := by decide +kernel
theorem dX9_asks_56 : decode cX9_asks 56 = .ok (.istore 7, 2) := by decide +kernel
theorem dX9_asks_58 : decode cX9_asks 58 = .ok (.iload 7, 2) := by decide +kernel
theorem dX9_asks_60 : decode cX9_asks 60 = .ok (.iload 4, 2) := by decide +kernel
theorem dX9_asks_62 : decode cX9_asks 62 = .ok (.if_icmp .ge 10, 3) := by decide +kernel
theorem dX9_asks_65 : decode cX9_asks 65 = .ok (.iload 5, 2) := by decide +kernel
theorem dX9_asks_67 : decode cX9_asks 67 = .ok (.istore_n 3, 1) := by decide +kernel
theorem dX9_asks_68 : decode cX9_asks 68 = .ok (.iload 7, 2) := by decide +kernel
theorem dX9_asks_70 : decode cX9_asks 70 = .ok (.istore 4, 2) := by decide +kernel
theorem dX9_asks_72 : decode cX9_asks 72 = .ok (.iinc 5 1, 3) := by decide +kernel
theorem dX9_asks_75 : decode cX9_asks 75 = .ok (.goto (-48), 3) := by decide +kernel
theorem dX9_asks_78 : decode cX9_asks 78 = .ok (.aload_n 0, 1) := by decide +kernel
theorem dX9_asks_79 : decode cX9_asks 79 = .ok (.getfield 40, 3) := by decide +kernel
theorem dX9_asks_82 : decode cX9_asks 82 = .ok (.iload 4, 2) := by decide +kernel
theorem dX9_asks_84 : decode cX9_asks 84 = .ok (.i2l, 1) := by decide +kernel
theorem dX9_asks_85 : decode cX9_asks 85 = .ok (.invokevirtual 229, 3) := by decide +kernel
theorem dX9_asks_88 : decode cX9_asks 88 = .ok (.iload_n 3, 1) := by decide +kernel
theorem dX9_asks_89 : decode cX9_asks 89 = .ok (.ireturn, 1) := by decide +kernel
theorem dX9_rowsThatFit_0 : decode cX9_rowsThatFit 0 = .ok (.iconst 1, 1) := by decide +kernel
theorem dX9_rowsThatFit_1 : decode cX9_rowsThatFit 1 = .ok (.aload_n 0, 1) := by decide +kernel
theorem dX9_rowsThatFit_2 : decode cX9_rowsThatFit 2 = .ok (.getfield 10, 3) := by decide +kernel
theorem dX9_rowsThatFit_5 : decode cX9_rowsThatFit 5 = .ok (.getfield 102, 3) := by decide +kernel
theorem dX9_rowsThatFit_8 : decode cX9_rowsThatFit 8 = .ok (.getfield 106, 3) := by decide +kernel
theorem dX9_rowsThatFit_11 : decode cX9_rowsThatFit 11 = .ok (.ishl, 1) := by decide +kernel
theorem dX9_rowsThatFit_12 : decode cX9_rowsThatFit 12 = .ok (.iconst 1, 1) := by decide +kernel
theorem dX9_rowsThatFit_13 : decode cX9_rowsThatFit 13 = .ok (.isub, 1) := by decide +kernel
theorem dX9_rowsThatFit_14 : decode cX9_rowsThatFit 14 = .ok (.istore_n 1, 1) := by decide +kernel
theorem dX9_rowsThatFit_15 : decode cX9_rowsThatFit 15 = .ok (.iconst 0, 1) := by decide +kernel
theorem dX9_rowsThatFit_16 : decode cX9_rowsThatFit 16 = .ok (.istore_n 2, 1) := by decide +kernel
theorem dX9_rowsThatFit_17 : decode cX9_rowsThatFit 17 = .ok (.iload_n 2, 1) := by decide +kernel
theorem dX9_rowsThatFit_18 : decode cX9_rowsThatFit 18 = .ok (.aload_n 0, 1) := by decide +kernel
theorem dX9_rowsThatFit_19 : decode cX9_rowsThatFit 19 = .ok (.getfield 47, 3) := by decide +kernel
theorem dX9_rowsThatFit_22 : decode cX9_rowsThatFit 22 = .ok (.getfield 392, 3) := by decide +kernel
theorem dX9_rowsThatFit_25 : decode cX9_rowsThatFit 25 = .ok (.if_icmp .ge 24, 3) := by decide +kernel
theorem dX9_rowsThatFit_28 : decode cX9_rowsThatFit 28 = .ok (.iload_n 1, 1) := by decide +kernel
theorem dX9_rowsThatFit_29 : decode cX9_rowsThatFit 29 = .ok (.aload_n 0, 1) := by decide +kernel
theorem dX9_rowsThatFit_30 : decode cX9_rowsThatFit 30 = .ok (.aload_n 0, 1) := by decide +kernel
theorem dX9_rowsThatFit_31 : decode cX9_rowsThatFit 31 = .ok (.getfield 47, 3) := by decide +kernel
theorem dX9_rowsThatFit_34 : decode cX9_rowsThatFit 34 = .ok (.iload_n 2, 1) := by decide +kernel
theorem dX9_rowsThatFit_35 : decode cX9_rowsThatFit 35 = .ok (.invokevirtual 399, 3) := by decide +kernel
theorem dX9_rowsThatFit_38 : decode cX9_rowsThatFit 38 = .ok (.invokevirtual 396, 3) := by decide +kernel
theorem dX9_rowsThatFit_41 : decode cX9_rowsThatFit 41 = .ok (.iand, 1) := by decide +kernel
theorem dX9_rowsThatFit_42 : decode cX9_rowsThatFit 42 = .ok (.istore_n 1, 1) := by decide +kernel
theorem dX9_rowsThatFit_43 : decode cX9_rowsThatFit 43 = .ok (.iinc 2 1, 3) := by decide +kernel
theorem dX9_rowsThatFit_46 : decode cX9_rowsThatFit 46 = .ok (.goto (-29), 3) := by decide +kernel
theorem dX9_rowsThatFit_49 : decode cX9_rowsThatFit 49 = .ok (.iload_n 1, 1) := by decide +kernel
theorem dX9_rowsThatFit_50 : decode cX9_rowsThatFit 50 = .ok (.ireturn, 1) := by decide +kernel
theorem dX9_rowsOfWhich_0 : decode cX9_rowsOfWhich 0 = .ok (.iconst 0, 1) := by decide +kernel
theorem dX9_rowsOfWhich_1 : decode cX9_rowsOfWhich 1 = .ok (.istore_n 2, 1) := by decide +kernel
theorem dX9_rowsOfWhich_2 : decode cX9_rowsOfWhich 2 = .ok (.iconst 0, 1) := by decide +kernel
theorem dX9_rowsOfWhich_3 : decode cX9_rowsOfWhich 3 = .ok (.istore_n 3, 1) := by decide +kernel
theorem dX9_rowsOfWhich_4 : decode cX9_rowsOfWhich 4 = .ok (.iload_n 3, 1) := by decide +kernel
theorem dX9_rowsOfWhich_5 : decode cX9_rowsOfWhich 5 = .ok (.aload_n 0, 1) := by decide +kernel
theorem dX9_rowsOfWhich_6 : decode cX9_rowsOfWhich 6 = .ok (.getfield 10, 3) := by decide +kernel
theorem dX9_rowsOfWhich_9 : decode cX9_rowsOfWhich 9 = .ok (.getfield 102, 3) := by decide +kernel
theorem dX9_rowsOfWhich_12 : decode cX9_rowsOfWhich 12 = .ok (.getfield 106, 3) := by decide +kernel
theorem dX9_rowsOfWhich_15 : decode cX9_rowsOfWhich 15 = .ok (.if_icmp .ge 24, 3) := by decide +kernel
theorem dX9_rowsOfWhich_18 : decode cX9_rowsOfWhich 18 = .ok (.aload_n 0, 1) := by decide +kernel
theorem dX9_rowsOfWhich_19 : decode cX9_rowsOfWhich 19 = .ok (.iload_n 3, 1) := by decide +kernel
theorem dX9_rowsOfWhich_20 : decode cX9_rowsOfWhich 20 = .ok (.iload_n 1, 1) := by decide +kernel
theorem dX9_rowsOfWhich_21 : decode cX9_rowsOfWhich 21 = .ok (.invokevirtual 402, 3) := by decide +kernel
theorem dX9_rowsOfWhich_24 : decode cX9_rowsOfWhich 24 = .ok (.ifCond .eq 9, 3) := by decide +kernel
theorem dX9_rowsOfWhich_27 : decode cX9_rowsOfWhich 27 = .ok (.iload_n 2, 1) := by decide +kernel
theorem dX9_rowsOfWhich_28 : decode cX9_rowsOfWhich 28 = .ok (.iconst 1, 1) := by decide +kernel
theorem dX9_rowsOfWhich_29 : decode cX9_rowsOfWhich 29 = .ok (.iload_n 3, 1) := by decide +kernel
theorem dX9_rowsOfWhich_30 : decode cX9_rowsOfWhich 30 = .ok (.ishl, 1) := by decide +kernel
theorem dX9_rowsOfWhich_31 : decode cX9_rowsOfWhich 31 = .ok (.ior, 1) := by decide +kernel
theorem dX9_rowsOfWhich_32 : decode cX9_rowsOfWhich 32 = .ok (.istore_n 2, 1) := by decide +kernel
theorem dX9_rowsOfWhich_33 : decode cX9_rowsOfWhich 33 = .ok (.iinc 3 1, 3) := by decide +kernel
theorem dX9_rowsOfWhich_36 : decode cX9_rowsOfWhich 36 = .ok (.goto (-32), 3) := by decide +kernel
theorem dX9_rowsOfWhich_39 : decode cX9_rowsOfWhich 39 = .ok (.iload_n 2, 1) := by decide +kernel
theorem dX9_rowsOfWhich_40 : decode cX9_rowsOfWhich 40 = .ok (.ireturn, 1) := by decide +kernel
theorem dX9_isSo_0 : decode cX9_isSo 0 = .ok (.iload_n 2, 1) := by decide +kernel
theorem dX9_isSo_1 : decode cX9_isSo 1 = .ok (.bipush 10, 2) := by decide +kernel
theorem dX9_isSo_3 : decode cX9_isSo 3 = .ok (.irem, 1) := by decide +kernel
theorem dX9_isSo_4 : decode cX9_isSo 4 = .ok (.istore_n 3, 1) := by decide +kernel
theorem dX9_isSo_5 : decode cX9_isSo 5 = .ok (.iload_n 2, 1) := by decide +kernel
theorem dX9_isSo_6 : decode cX9_isSo 6 = .ok (.bipush 10, 2) := by decide +kernel
theorem dX9_isSo_8 : decode cX9_isSo 8 = .ok (.idiv, 1) := by decide +kernel
theorem dX9_isSo_9 : decode cX9_isSo 9 = .ok (.tableswitch 104 0 2 #[27, 49, 74], 27) := by decide +kernel
theorem dX9_isSo_36 : decode cX9_isSo 36 = .ok (.aload_n 0, 1) := by decide +kernel
theorem dX9_isSo_37 : decode cX9_isSo 37 = .ok (.getfield 10, 3) := by decide +kernel
theorem dX9_isSo_40 : decode cX9_isSo 40 = .ok (.getfield 102, 3) := by decide +kernel
theorem dX9_isSo_43 : decode cX9_isSo 43 = .ok (.iload_n 1, 1) := by decide +kernel
theorem dX9_isSo_44 : decode cX9_isSo 44 = .ok (.iconst 0, 1) := by decide +kernel
theorem dX9_isSo_45 : decode cX9_isSo 45 = .ok (.invokevirtual 98, 3) := by decide +kernel
theorem dX9_isSo_48 : decode cX9_isSo 48 = .ok (.iload_n 3, 1) := by decide +kernel
theorem dX9_isSo_49 : decode cX9_isSo 49 = .ok (.if_icmp .ne 7, 3) := by decide +kernel
theorem dX9_isSo_52 : decode cX9_isSo 52 = .ok (.iconst 1, 1) := by decide +kernel
theorem dX9_isSo_53 : decode cX9_isSo 53 = .ok (.goto 4, 3) := by decide +kernel
theorem dX9_isSo_56 : decode cX9_isSo 56 = .ok (.iconst 0, 1) := by decide +kernel
theorem dX9_isSo_57 : decode cX9_isSo 57 = .ok (.ireturn, 1) := by decide +kernel
theorem dX9_isSo_58 : decode cX9_isSo 58 = .ok (.aload_n 0, 1) := by decide +kernel
theorem dX9_isSo_59 : decode cX9_isSo 59 = .ok (.getfield 10, 3) := by decide +kernel
theorem dX9_isSo_62 : decode cX9_isSo 62 = .ok (.getfield 102, 3) := by decide +kernel
theorem dX9_isSo_65 : decode cX9_isSo 65 = .ok (.iload_n 1, 1) := by decide +kernel
theorem dX9_isSo_66 : decode cX9_isSo 66 = .ok (.iconst 1, 1) := by decide +kernel
theorem dX9_isSo_67 : decode cX9_isSo 67 = .ok (.invokevirtual 98, 3) := by decide +kernel
theorem dX9_isSo_70 : decode cX9_isSo 70 = .ok (.bipush 10, 2) := by decide +kernel
theorem dX9_isSo_72 : decode cX9_isSo 72 = .ok (.iload_n 3, 1) := by decide +kernel
theorem dX9_isSo_73 : decode cX9_isSo 73 = .ok (.imul, 1) := by decide +kernel
theorem dX9_isSo_74 : decode cX9_isSo 74 = .ok (.if_icmp .lt 7, 3) := by decide +kernel
theorem dX9_isSo_77 : decode cX9_isSo 77 = .ok (.iconst 1, 1) := by decide +kernel
theorem dX9_isSo_78 : decode cX9_isSo 78 = .ok (.goto 4, 3) := by decide +kernel
theorem dX9_isSo_81 : decode cX9_isSo 81 = .ok (.iconst 0, 1) := by decide +kernel
theorem dX9_isSo_82 : decode cX9_isSo 82 = .ok (.ireturn, 1) := by decide +kernel
theorem dX9_isSo_83 : decode cX9_isSo 83 = .ok (.aload_n 0, 1) := by decide +kernel
theorem dX9_isSo_84 : decode cX9_isSo 84 = .ok (.getfield 10, 3) := by decide +kernel
theorem dX9_isSo_87 : decode cX9_isSo 87 = .ok (.getfield 102, 3) := by decide +kernel
theorem dX9_isSo_90 : decode cX9_isSo 90 = .ok (.iload_n 1, 1) := by decide +kernel
theorem dX9_isSo_91 : decode cX9_isSo 91 = .ok (.bipush 10, 2) := by decide +kernel
theorem dX9_isSo_93 : decode cX9_isSo 93 = .ok (.iload_n 3, 1) := by decide +kernel
theorem dX9_isSo_94 : decode cX9_isSo 94 = .ok (.imul, 1) := by decide +kernel
theorem dX9_isSo_95 : decode cX9_isSo 95 = .ok (.bipush 10, 2) := by decide +kernel
theorem dX9_isSo_97 : decode cX9_isSo 97 = .ok (.iload_n 3, 1) := by decide +kernel
theorem dX9_isSo_98 : decode cX9_isSo 98 = .ok (.imul, 1) := by decide +kernel
theorem dX9_isSo_99 : decode cX9_isSo 99 = .ok (.iconst 1, 1) := by decide +kernel
theorem dX9_isSo_100 : decode cX9_isSo 100 = .ok (.iadd, 1) := by decide +kernel
theorem dX9_isSo_101 : decode cX9_isSo 101 = .ok (.invokevirtual 297, 3) := by decide +kernel
theorem dX9_isSo_104 : decode cX9_isSo 104 = .ok (.ifCond .le 7, 3) := by decide +kernel
theorem dX9_isSo_107 : decode cX9_isSo 107 = .ok (.iconst 1, 1) := by decide +kernel
theorem dX9_isSo_108 : decode cX9_isSo 108 = .ok (.goto 4, 3) := by decide +kernel
theorem dX9_isSo_111 : decode cX9_isSo 111 = .ok (.iconst 0, 1) := by decide +kernel
theorem dX9_isSo_112 : decode cX9_isSo 112 = .ok (.ireturn, 1) := by decide +kernel
theorem dX9_isSo_113 : decode cX9_isSo 113 = .ok (.aload_n 0, 1) := by decide +kernel
theorem dX9_isSo_114 : decode cX9_isSo 114 = .ok (.getfield 10, 3) := by decide +kernel
theorem dX9_isSo_117 : decode cX9_isSo 117 = .ok (.getfield 102, 3) := by decide +kernel
theorem dX9_isSo_120 : decode cX9_isSo 120 = .ok (.iload_n 1, 1) := by decide +kernel
theorem dX9_isSo_121 : decode cX9_isSo 121 = .ok (.iconst 4, 1) := by decide +kernel
theorem dX9_isSo_122 : decode cX9_isSo 122 = .ok (.invokevirtual 98, 3) := by decide +kernel
theorem dX9_isSo_125 : decode cX9_isSo 125 = .ok (.bipush 10, 2) := by decide +kernel
theorem dX9_isSo_127 : decode cX9_isSo 127 = .ok (.if_icmp .eq 7, 3) := by decide +kernel
theorem dX9_isSo_130 : decode cX9_isSo 130 = .ok (.iconst 1, 1) := by decide +kernel
theorem dX9_isSo_131 : decode cX9_isSo 131 = .ok (.goto 4, 3) := by decide +kernel
theorem dX9_isSo_134 : decode cX9_isSo 134 = .ok (.iconst 0, 1) := by decide +kernel
theorem dX9_isSo_135 : decode cX9_isSo 135 = .ok (.iload_n 3, 1) := by decide +kernel
theorem dX9_isSo_136 : decode cX9_isSo 136 = .ok (.iconst 1, 1) := by decide +kernel
theorem dX9_isSo_137 : decode cX9_isSo 137 = .ok (.if_icmp .ne 7, 3) := by decide +kernel
theorem dX9_isSo_140 : decode cX9_isSo 140 = .ok (.iconst 1, 1) := by decide +kernel
theorem dX9_isSo_141 : decode cX9_isSo 141 = .ok (.goto 4, 3) := by decide +kernel
theorem dX9_isSo_144 : decode cX9_isSo 144 = .ok (.iconst 0, 1) := by decide +kernel
theorem dX9_isSo_145 : decode cX9_isSo 145 = .ok (.if_icmp .ne 7, 3) := by decide +kernel
theorem dX9_isSo_148 : decode cX9_isSo 148 = .ok (.iconst 1, 1) := by decide +kernel
theorem dX9_isSo_149 : decode cX9_isSo 149 = .ok (.goto 4, 3) := by decide +kernel
theorem dX9_isSo_152 : decode cX9_isSo 152 = .ok (.iconst 0, 1) := by decide +kernel
theorem dX9_isSo_153 : decode cX9_isSo 153 = .ok (.ireturn, 1) := by decide +kernel
theorem dX9_years_0 : decode cX9_years 0 = .ok (.iload_n 2, 1) := by decide +kernel
theorem dX9_years_1 : decode cX9_years 1 = .ok (.iconst 1, 1) := by decide +kernel
theorem dX9_years_2 : decode cX9_years 2 = .ok (.if_icmp .lt 9, 3) := by decide +kernel
theorem dX9_years_5 : decode cX9_years 5 = .ok (.iload_n 2, 1) := by decide +kernel
theorem dX9_years_6 : decode cX9_years 6 = .ok (.bipush 40, 2) := by decide +kernel
theorem dX9_years_8 : decode cX9_years 8 = .ok (.if_icmp .le 5, 3) := by decide +kernel
theorem dX9_years_11 : decode cX9_years 11 = .ok (.iconst (-1), 1) := by decide +kernel
theorem dX9_years_12 : decode cX9_years 12 = .ok (.ireturn, 1) := by decide +kernel
theorem dX9_years_13 : decode cX9_years 13 = .ok (.aload_n 0, 1) := by decide +kernel
theorem dX9_years_14 : decode cX9_years 14 = .ok (.iload_n 1, 1) := by decide +kernel
theorem dX9_years_15 : decode cX9_years 15 = .ok (.putfield 405, 3) := by decide +kernel
theorem dX9_years_18 : decode cX9_years 18 = .ok (.iconst 0, 1) := by decide +kernel
theorem dX9_years_19 : decode cX9_years 19 = .ok (.istore_n 3, 1) := by decide +kernel
theorem dX9_years_20 : decode cX9_years 20 = .ok (.iload_n 3, 1) := by decide +kernel
theorem dX9_years_21 : decode cX9_years 21 = .ok (.iload_n 2, 1) := by decide +kernel
theorem dX9_years_22 : decode cX9_years 22 = .ok (.if_icmp .ge 13, 3) := by decide +kernel
theorem dX9_years_25 : decode cX9_years 25 = .ok (.aload_n 0, 1) := by decide +kernel
theorem dX9_years_26 : decode cX9_years 26 = .ok (.invokevirtual 408, 3) := by decide +kernel
theorem dX9_years_29 : decode cX9_years 29 = .ok (.iinc 3 1, 3) := by decide +kernel
theorem dX9_years_32 : decode cX9_years 32 = .ok (.goto (-12), 3) := by decide +kernel
theorem dX9_years_35 : decode cX9_years 35 = .ok (.aload_n 0, 1) := by decide +kernel
theorem dX9_years_36 : decode cX9_years 36 = .ok (.getfield 40, 3) := by decide +kernel
theorem dX9_years_39 : decode cX9_years 39 = .ok (.aload_n 0, 1) := by decide +kernel
theorem dX9_years_40 : decode cX9_years 40 = .ok (.getfield 10, 3) := by decide +kernel
theorem dX9_years_43 : decode cX9_years 43 = .ok (.getfield 102, 3) := by decide +kernel
theorem dX9_years_46 : decode cX9_years 46 = .ok (.invokevirtual 315, 3) := by decide +kernel
theorem dX9_years_49 : decode cX9_years 49 = .ok (.aload_n 0, 1) := by decide +kernel
theorem dX9_years_50 : decode cX9_years 50 = .ok (.getfield 10, 3) := by decide +kernel
theorem dX9_years_53 : decode cX9_years 53 = .ok (.getfield 179, 3) := by decide +kernel
theorem dX9_years_56 : decode cX9_years 56 = .ok (.invokevirtual 315, 3) := by decide +kernel
theorem dX9_years_59 : decode cX9_years 59 = .ok (.iadd, 1) := by decide +kernel
theorem dX9_years_60 : decode cX9_years 60 = .ok (.i2l, 1) := by decide +kernel
theorem dX9_years_61 : decode cX9_years 61 = .ok (.aload_n 0, 1) := by decide +kernel
theorem dX9_years_62 : decode cX9_years 62 = .ok (.getfield 10, 3) := by decide +kernel
theorem dX9_years_65 : decode cX9_years 65 = .ok (.getfield 102, 3) := by decide +kernel
theorem dX9_years_68 : decode cX9_years 68 = .ok (.invokevirtual 411, 3) := by decide +kernel
theorem dX9_years_71 : decode cX9_years 71 = .ok (.aload_n 0, 1) := by decide +kernel
theorem dX9_years_72 : decode cX9_years 72 = .ok (.getfield 10, 3) := by decide +kernel
theorem dX9_years_75 : decode cX9_years 75 = .ok (.getfield 179, 3) := by decide +kernel
theorem dX9_years_78 : decode cX9_years 78 = .ok (.invokevirtual 411, 3) := by decide +kernel
theorem dX9_years_81 : decode cX9_years 81 = .ok (.iadd, 1) := by decide +kernel
theorem dX9_years_82 : decode cX9_years 82 = .ok (.i2l, 1) := by decide +kernel
theorem dX9_years_83 : decode cX9_years 83 = .ok (.invokevirtual 182, 3) := by decide +kernel
theorem dX9_years_86 : decode cX9_years 86 = .ok (.aload_n 0, 1) := by decide +kernel
theorem dX9_years_87 : decode cX9_years 87 = .ok (.getfield 10, 3) := by decide +kernel
theorem dX9_years_90 : decode cX9_years 90 = .ok (.getfield 102, 3) := by decide +kernel
theorem dX9_years_93 : decode cX9_years 93 = .ok (.getfield 106, 3) := by decide +kernel
theorem dX9_years_96 : decode cX9_years 96 = .ok (.aload_n 0, 1) := by decide +kernel
theorem dX9_years_97 : decode cX9_years 97 = .ok (.getfield 10, 3) := by decide +kernel
theorem dX9_years_100 : decode cX9_years 100 = .ok (.getfield 179, 3) := by decide +kernel
theorem dX9_years_103 : decode cX9_years 103 = .ok (.getfield 106, 3) := by decide +kernel
theorem dX9_years_106 : decode cX9_years 106 = .ok (.iadd, 1) := by decide +kernel
theorem dX9_years_107 : decode cX9_years 107 = .ok (.ireturn, 1) := by decide +kernel
theorem dX9_doDrawnAct_0 : decode cX9_doDrawnAct 0 = .ok (.aload_n 0, 1) := by decide +kernel
theorem dX9_doDrawnAct_1 : decode cX9_doDrawnAct 1 = .ok (.bipush 6, 2) := by decide +kernel
theorem dX9_doDrawnAct_3 : decode cX9_doDrawnAct 3 = .ok (.invokevirtual 414, 3) := by decide +kernel
theorem dX9_doDrawnAct_6 : decode cX9_doDrawnAct 6 = .ok (.istore_n 1, 1) := by decide +kernel
theorem dX9_doDrawnAct_7 : decode cX9_doDrawnAct 7 = .ok (.aload_n 0, 1) := by decide +kernel
theorem dX9_doDrawnAct_8 : decode cX9_doDrawnAct 8 = .ok (.iconst 2, 1) := by decide +kernel
theorem dX9_doDrawnAct_9 : decode cX9_doDrawnAct 9 = .ok (.invokevirtual 414, 3) := by decide +kernel
theorem dX9_doDrawnAct_12 : decode cX9_doDrawnAct 12 = .ok (.istore_n 2, 1) := by decide +kernel
theorem dX9_doDrawnAct_13 : decode cX9_doDrawnAct 13 = .ok (.aload_n 0, 1) := by decide +kernel
theorem dX9_doDrawnAct_14 : decode cX9_doDrawnAct 14 = .ok (.bipush 10, 2) := by decide +kernel
theorem dX9_doDrawnAct_16 : decode cX9_doDrawnAct 16 = .ok (.invokevirtual 414, 3) := by decide +kernel
theorem dX9_doDrawnAct_19 : decode cX9_doDrawnAct 19 = .ok (.istore_n 3, 1) := by decide +kernel
theorem dX9_doDrawnAct_20 : decode cX9_doDrawnAct 20 = .ok (.aload_n 0, 1) := by decide +kernel
theorem dX9_doDrawnAct_21 : decode cX9_doDrawnAct 21 = .ok (.bipush 100, 2) := by decide +kernel
theorem dX9_doDrawnAct_23 : decode cX9_doDrawnAct 23 = .ok (.invokevirtual 414, 3) := by decide +kernel
theorem dX9_doDrawnAct_26 : decode cX9_doDrawnAct 26 = .ok (.istore 4, 2) := by decide +kernel
theorem dX9_doDrawnAct_28 : decode cX9_doDrawnAct 28 = .ok (.bipush 100, 2) := by decide +kernel
theorem dX9_doDrawnAct_30 : decode cX9_doDrawnAct 30 = .ok (.iload 4, 2) := by decide +kernel
theorem dX9_doDrawnAct_32 : decode cX9_doDrawnAct 32 = .ok (.aload_n 0, 1) := by decide +kernel
theorem dX9_doDrawnAct_33 : decode cX9_doDrawnAct 33 = .ok (.bipush 20, 2) := by decide +kernel
theorem dX9_doDrawnAct_35 : decode cX9_doDrawnAct 35 = .ok (.invokevirtual 414, 3) := by decide +kernel
theorem dX9_doDrawnAct_38 : decode cX9_doDrawnAct 38 = .ok (.iadd, 1) := by decide +kernel
theorem dX9_doDrawnAct_39 : decode cX9_doDrawnAct 39 = .ok (.iconst 1, 1) := by decide +kernel
theorem dX9_doDrawnAct_40 : decode cX9_doDrawnAct 40 = .ok (.iadd, 1) := by decide +kernel
theorem dX9_doDrawnAct_41 : decode cX9_doDrawnAct 41 = .ok (.invokestatic 114, 3) := by decide +kernel
theorem dX9_doDrawnAct_44 : decode cX9_doDrawnAct 44 = .ok (.istore 5, 2) := by decide +kernel
theorem dX9_doDrawnAct_46 : decode cX9_doDrawnAct 46 = .ok (.iload_n 1, 1) := by decide +kernel
theorem dX9_doDrawnAct_47 : decode cX9_doDrawnAct 47 = .ok (.tableswitch 91 2 5 #[29, 49, 68, 82], 29) := by decide +kernel
theorem dX9_doDrawnAct_76 : decode cX9_doDrawnAct 76 = .ok (.aload_n 0, 1) := by decide +kernel
theorem dX9_doDrawnAct_77 : decode cX9_doDrawnAct 77 = .ok (.iload_n 2, 1) := by decide +kernel
theorem dX9_doDrawnAct_78 : decode cX9_doDrawnAct 78 = .ok (.iload_n 3, 1) := by decide +kernel
theorem dX9_doDrawnAct_79 : decode cX9_doDrawnAct 79 = .ok (.aload_n 0, 1) := by decide +kernel
theorem dX9_doDrawnAct_80 : decode cX9_doDrawnAct 80 = .ok (.bipush 100, 2) := by decide +kernel
theorem dX9_doDrawnAct_82 : decode cX9_doDrawnAct 82 = .ok (.invokevirtual 414, 3) := by decide +kernel
theorem dX9_doDrawnAct_85 : decode cX9_doDrawnAct 85 = .ok (.iload 4, 2) := by decide +kernel
theorem dX9_doDrawnAct_87 : decode cX9_doDrawnAct 87 = .ok (.iload 5, 2) := by decide +kernel
theorem dX9_doDrawnAct_89 : decode cX9_doDrawnAct 89 = .ok (.invokevirtual 134, 3) := by decide +kernel
theorem dX9_doDrawnAct_92 : decode cX9_doDrawnAct 92 = .ok (.pop, 1) := by decide +kernel
theorem dX9_doDrawnAct_93 : decode cX9_doDrawnAct 93 = .ok (.goto 62, 3) := by decide +kernel
theorem dX9_doDrawnAct_96 : decode cX9_doDrawnAct 96 = .ok (.aload_n 0, 1) := by decide +kernel
theorem dX9_doDrawnAct_97 : decode cX9_doDrawnAct 97 = .ok (.iload_n 3, 1) := by decide +kernel
theorem dX9_doDrawnAct_98 : decode cX9_doDrawnAct 98 = .ok (.aload_n 0, 1) := by decide +kernel
theorem dX9_doDrawnAct_99 : decode cX9_doDrawnAct 99 = .ok (.bipush 11, 2) := by decide +kernel
theorem dX9_doDrawnAct_101 : decode cX9_doDrawnAct 101 = .ok (.invokevirtual 414, 3) := by decide +kernel
theorem dX9_doDrawnAct_104 : decode cX9_doDrawnAct 104 = .ok (.iload 4, 2) := by decide +kernel
theorem dX9_doDrawnAct_106 : decode cX9_doDrawnAct 106 = .ok (.iload 5, 2) := by decide +kernel
theorem dX9_doDrawnAct_108 : decode cX9_doDrawnAct 108 = .ok (.invokevirtual 137, 3) := by decide +kernel
theorem dX9_doDrawnAct_111 : decode cX9_doDrawnAct 111 = .ok (.pop, 1) := by decide +kernel
theorem dX9_doDrawnAct_112 : decode cX9_doDrawnAct 112 = .ok (.goto 43, 3) := by decide +kernel
theorem dX9_doDrawnAct_115 : decode cX9_doDrawnAct 115 = .ok (.aload_n 0, 1) := by decide +kernel
theorem dX9_doDrawnAct_116 : decode cX9_doDrawnAct 116 = .ok (.iload_n 2, 1) := by decide +kernel
theorem dX9_doDrawnAct_117 : decode cX9_doDrawnAct 117 = .ok (.iload_n 3, 1) := by decide +kernel
theorem dX9_doDrawnAct_118 : decode cX9_doDrawnAct 118 = .ok (.iload 4, 2) := by decide +kernel
theorem dX9_doDrawnAct_120 : decode cX9_doDrawnAct 120 = .ok (.iload 5, 2) := by decide +kernel
theorem dX9_doDrawnAct_122 : decode cX9_doDrawnAct 122 = .ok (.invokevirtual 141, 3) := by decide +kernel
theorem dX9_doDrawnAct_125 : decode cX9_doDrawnAct 125 = .ok (.pop, 1) := by decide +kernel
theorem dX9_doDrawnAct_126 : decode cX9_doDrawnAct 126 = .ok (.goto 29, 3) := by decide +kernel
theorem dX9_doDrawnAct_129 : decode cX9_doDrawnAct 129 = .ok (.aload_n 0, 1) := by decide +kernel
theorem dX9_doDrawnAct_130 : decode cX9_doDrawnAct 130 = .ok (.iload_n 2, 1) := by decide +kernel
theorem dX9_doDrawnAct_131 : decode cX9_doDrawnAct 131 = .ok (.invokevirtual 148, 3) := by decide +kernel
theorem dX9_doDrawnAct_134 : decode cX9_doDrawnAct 134 = .ok (.pop, 1) := by decide +kernel
theorem dX9_doDrawnAct_135 : decode cX9_doDrawnAct 135 = .ok (.goto 20, 3) := by decide +kernel
theorem dX9_doDrawnAct_138 : decode cX9_doDrawnAct 138 = .ok (.aload_n 0, 1) := by decide +kernel
theorem dX9_doDrawnAct_139 : decode cX9_doDrawnAct 139 = .ok (.iload_n 2, 1) := by decide +kernel
theorem dX9_doDrawnAct_140 : decode cX9_doDrawnAct 140 = .ok (.iload_n 3, 1) := by decide +kernel
theorem dX9_doDrawnAct_141 : decode cX9_doDrawnAct 141 = .ok (.aload_n 0, 1) := by decide +kernel
theorem dX9_doDrawnAct_142 : decode cX9_doDrawnAct 142 = .ok (.bipush 100, 2) := by decide +kernel
theorem dX9_doDrawnAct_144 : decode cX9_doDrawnAct 144 = .ok (.invokevirtual 414, 3) := by decide +kernel
theorem dX9_doDrawnAct_147 : decode cX9_doDrawnAct 147 = .ok (.iload 4, 2) := by decide +kernel
theorem dX9_doDrawnAct_149 : decode cX9_doDrawnAct 149 = .ok (.iload 5, 2) := by decide +kernel
theorem dX9_doDrawnAct_151 : decode cX9_doDrawnAct 151 = .ok (.invokevirtual 126, 3) := by decide +kernel
theorem dX9_doDrawnAct_154 : decode cX9_doDrawnAct 154 = .ok (.pop, 1) := by decide +kernel
theorem dX9_doDrawnAct_155 : decode cX9_doDrawnAct 155 = .ok (.return_, 1) := by decide +kernel
theorem dX9_draw_0 : decode cX9_draw 0 = .ok (.aload_n 0, 1) := by decide +kernel
theorem dX9_draw_1 : decode cX9_draw 1 = .ok (.aload_n 0, 1) := by decide +kernel
theorem dX9_draw_2 : decode cX9_draw 2 = .ok (.getfield 405, 3) := by decide +kernel
theorem dX9_draw_5 : decode cX9_draw 5 = .ok (.ldc_w 417, 3) := by decide +kernel
theorem dX9_draw_8 : decode cX9_draw 8 = .ok (.imul, 1) := by decide +kernel
theorem dX9_draw_9 : decode cX9_draw 9 = .ok (.sipush 12345, 3) := by decide +kernel
theorem dX9_draw_12 : decode cX9_draw 12 = .ok (.iadd, 1) := by decide +kernel
theorem dX9_draw_13 : decode cX9_draw 13 = .ok (.putfield 405, 3) := by decide +kernel
theorem dX9_draw_16 : decode cX9_draw 16 = .ok (.iload_n 1, 1) := by decide +kernel
theorem dX9_draw_17 : decode cX9_draw 17 = .ok (.ifCond .le 15, 3) := by decide +kernel
theorem dX9_draw_20 : decode cX9_draw 20 = .ok (.aload_n 0, 1) := by decide +kernel
theorem dX9_draw_21 : decode cX9_draw 21 = .ok (.getfield 405, 3) := by decide +kernel
theorem dX9_draw_24 : decode cX9_draw 24 = .ok (.bipush 16, 2) := by decide +kernel
theorem dX9_draw_26 : decode cX9_draw 26 = .ok (.iushr, 1) := by decide +kernel
theorem dX9_draw_27 : decode cX9_draw 27 = .ok (.iload_n 1, 1) := by decide +kernel
theorem dX9_draw_28 : decode cX9_draw 28 = .ok (.irem, 1) := by decide +kernel
theorem dX9_draw_29 : decode cX9_draw 29 = .ok (.goto 4, 3) := by decide +kernel
theorem dX9_draw_32 : decode cX9_draw 32 = .ok (.iconst 0, 1) := by decide +kernel
theorem dX9_draw_33 : decode cX9_draw 33 = .ok (.ireturn, 1) := by decide +kernel
theorem dX9_keep_0 : decode cX9_keep 0 = .ok (.iload_n 1, 1) := by decide +kernel
theorem dX9_keep_1 : decode cX9_keep 1 = .ok (.invokestatic 375, 3) := by decide +kernel
theorem dX9_keep_4 : decode cX9_keep 4 = .ok (.ifCond .ne 5, 3) := by decide +kernel
theorem dX9_keep_7 : decode cX9_keep 7 = .ok (.iconst 0, 1) := by decide +kernel
theorem dX9_keep_8 : decode cX9_keep 8 = .ok (.ireturn, 1) := by decide +kernel
theorem dX9_keep_9 : decode cX9_keep 9 = .ok (.aload_n 0, 1) := by decide +kernel
theorem dX9_keep_10 : decode cX9_keep 10 = .ok (.getfield 26, 3) := by decide +kernel
theorem dX9_keep_13 : decode cX9_keep 13 = .ok (.iload_n 1, 1) := by decide +kernel
theorem dX9_keep_14 : decode cX9_keep 14 = .ok (.aaload, 1) := by decide +kernel
theorem dX9_keep_15 : decode cX9_keep 15 = .ok (.aload_n 0, 1) := by decide +kernel
theorem dX9_keep_16 : decode cX9_keep 16 = .ok (.getfield 10, 3) := by decide +kernel
theorem dX9_keep_19 : decode cX9_keep 19 = .ok (.invokevirtual 191, 3) := by decide +kernel
theorem dX9_keep_22 : decode cX9_keep 22 = .ok (.aload_n 0, 1) := by decide +kernel
theorem dX9_keep_23 : decode cX9_keep 23 = .ok (.getfield 26, 3) := by decide +kernel
theorem dX9_keep_26 : decode cX9_keep 26 = .ok (.iload_n 1, 1) := by decide +kernel
theorem dX9_keep_27 : decode cX9_keep 27 = .ok (.aaload, 1) := by decide +kernel
theorem dX9_keep_28 : decode cX9_keep 28 = .ok (.iconst 1, 1) := by decide +kernel
theorem dX9_keep_29 : decode cX9_keep 29 = .ok (.putfield 378, 3) := by decide +kernel
theorem dX9_keep_32 : decode cX9_keep 32 = .ok (.iconst 1, 1) := by decide +kernel
theorem dX9_keep_33 : decode cX9_keep 33 = .ok (.ireturn, 1) := by decide +kernel
theorem dX9_again_0 : decode cX9_again 0 = .ok (.iload_n 1, 1) := by decide +kernel
theorem dX9_again_1 : decode cX9_again 1 = .ok (.invokestatic 375, 3) := by decide +kernel
theorem dX9_again_4 : decode cX9_again 4 = .ok (.ifCond .eq 15, 3) := by decide +kernel
theorem dX9_again_7 : decode cX9_again 7 = .ok (.aload_n 0, 1) := by decide +kernel
theorem dX9_again_8 : decode cX9_again 8 = .ok (.getfield 26, 3) := by decide +kernel
theorem dX9_again_11 : decode cX9_again 11 = .ok (.iload_n 1, 1) := by decide +kernel
theorem dX9_again_12 : decode cX9_again 12 = .ok (.aaload, 1) := by decide +kernel
theorem dX9_again_13 : decode cX9_again 13 = .ok (.getfield 378, 3) := by decide +kernel
theorem dX9_again_16 : decode cX9_again 16 = .ok (.ifCond .ne 5, 3) := by decide +kernel
theorem dX9_again_19 : decode cX9_again 19 = .ok (.iconst 0, 1) := by decide +kernel
theorem dX9_again_20 : decode cX9_again 20 = .ok (.ireturn, 1) := by decide +kernel
theorem dX9_again_21 : decode cX9_again 21 = .ok (.aload_n 0, 1) := by decide +kernel
theorem dX9_again_22 : decode cX9_again 22 = .ok (.getfield 10, 3) := by decide +kernel
theorem dX9_again_25 : decode cX9_again 25 = .ok (.aload_n 0, 1) := by decide +kernel
theorem dX9_again_26 : decode cX9_again 26 = .ok (.getfield 26, 3) := by decide +kernel
theorem dX9_again_29 : decode cX9_again 29 = .ok (.iload_n 1, 1) := by decide +kernel
theorem dX9_again_30 : decode cX9_again 30 = .ok (.aaload, 1) := by decide +kernel
theorem dX9_again_31 : decode cX9_again 31 = .ok (.invokevirtual 191, 3) := by decide +kernel
theorem dX9_again_34 : decode cX9_again 34 = .ok (.aload_n 0, 1) := by decide +kernel
theorem dX9_again_35 : decode cX9_again 35 = .ok (.getfield 22, 3) := by decide +kernel
theorem dX9_again_38 : decode cX9_again 38 = .ok (.iconst 0, 1) := by decide +kernel
theorem dX9_again_39 : decode cX9_again 39 = .ok (.putfield 186, 3) := by decide +kernel
theorem dX9_again_42 : decode cX9_again 42 = .ok (.iconst 1, 1) := by decide +kernel
theorem dX9_again_43 : decode cX9_again 43 = .ok (.ireturn, 1) := by decide +kernel
theorem dX9_count_0 : decode cX9_count 0 = .ok (.iload_n 1, 1) := by decide +kernel
theorem dX9_count_1 : decode cX9_count 1 = .ok (.tableswitch 150 0 9 #[55, 66, 77, 85, 96, 107, 118, 126, 134, 142], 55) := by decide +kernel
theorem dX9_count_56 : decode cX9_count 56 = .ok (.aload_n 0, 1) := by decide +kernel
theorem dX9_count_57 : decode cX9_count 57 = .ok (.getfield 10, 3) := by decide +kernel
theorem dX9_count_60 : decode cX9_count 60 = .ok (.getfield 102, 3) := by decide +kernel
theorem dX9_count_63 : decode cX9_count 63 = .ok (.getfield 106, 3) := by decide +kernel
theorem dX9_count_66 : decode cX9_count 66 = .ok (.ireturn, 1) := by decide +kernel
theorem dX9_count_67 : decode cX9_count 67 = .ok (.aload_n 0, 1) := by decide +kernel
theorem dX9_count_68 : decode cX9_count 68 = .ok (.getfield 10, 3) := by decide +kernel
theorem dX9_count_71 : decode cX9_count 71 = .ok (.getfield 179, 3) := by decide +kernel
theorem dX9_count_74 : decode cX9_count 74 = .ok (.getfield 106, 3) := by decide +kernel
theorem dX9_count_77 : decode cX9_count 77 = .ok (.ireturn, 1) := by decide +kernel
theorem dX9_count_78 : decode cX9_count 78 = .ok (.aload_n 0, 1) := by decide +kernel
theorem dX9_count_79 : decode cX9_count 79 = .ok (.getfield 10, 3) := by decide +kernel
theorem dX9_count_82 : decode cX9_count 82 = .ok (.getfield 238, 3) := by decide +kernel
theorem dX9_count_85 : decode cX9_count 85 = .ok (.ireturn, 1) := by decide +kernel
theorem dX9_count_86 : decode cX9_count 86 = .ok (.aload_n 0, 1) := by decide +kernel
theorem dX9_count_87 : decode cX9_count 87 = .ok (.getfield 10, 3) := by decide +kernel
theorem dX9_count_90 : decode cX9_count 90 = .ok (.getfield 102, 3) := by decide +kernel
theorem dX9_count_93 : decode cX9_count 93 = .ok (.invokevirtual 315, 3) := by decide +kernel
theorem dX9_count_96 : decode cX9_count 96 = .ok (.ireturn, 1) := by decide +kernel
theorem dX9_count_97 : decode cX9_count 97 = .ok (.aload_n 0, 1) := by decide +kernel
theorem dX9_count_98 : decode cX9_count 98 = .ok (.getfield 10, 3) := by decide +kernel
theorem dX9_count_101 : decode cX9_count 101 = .ok (.getfield 179, 3) := by decide +kernel
theorem dX9_count_104 : decode cX9_count 104 = .ok (.invokevirtual 315, 3) := by decide +kernel
theorem dX9_count_107 : decode cX9_count 107 = .ok (.ireturn, 1) := by decide +kernel
theorem dX9_count_108 : decode cX9_count 108 = .ok (.aload_n 0, 1) := by decide +kernel
theorem dX9_count_109 : decode cX9_count 109 = .ok (.getfield 10, 3) := by decide +kernel
theorem dX9_count_112 : decode cX9_count 112 = .ok (.getfield 102, 3) := by decide +kernel
theorem dX9_count_115 : decode cX9_count 115 = .ok (.invokevirtual 418, 3) := by decide +kernel
theorem dX9_count_118 : decode cX9_count 118 = .ok (.ireturn, 1) := by decide +kernel
theorem dX9_count_119 : decode cX9_count 119 = .ok (.aload_n 0, 1) := by decide +kernel
theorem dX9_count_120 : decode cX9_count 120 = .ok (.getfield 47, 3) := by decide +kernel
theorem dX9_count_123 : decode cX9_count 123 = .ok (.getfield 392, 3) := by decide +kernel
theorem dX9_count_126 : decode cX9_count 126 = .ok (.ireturn, 1) := by decide +kernel
theorem dX9_count_127 : decode cX9_count 127 = .ok (.aload_n 0, 1) := by decide +kernel
theorem dX9_count_128 : decode cX9_count 128 = .ok (.getfield 22, 3) := by decide +kernel
theorem dX9_count_131 : decode cX9_count 131 = .ok (.getfield 186, 3) := by decide +kernel
theorem dX9_count_134 : decode cX9_count 134 = .ok (.ireturn, 1) := by decide +kernel
theorem dX9_count_135 : decode cX9_count 135 = .ok (.aload_n 0, 1) := by decide +kernel
theorem dX9_count_136 : decode cX9_count 136 = .ok (.getfield 40, 3) := by decide +kernel
theorem dX9_count_139 : decode cX9_count 139 = .ok (.getfield 386, 3) := by decide +kernel
theorem dX9_count_142 : decode cX9_count 142 = .ok (.ireturn, 1) := by decide +kernel
theorem dX9_count_143 : decode cX9_count 143 = .ok (.aload_n 0, 1) := by decide +kernel
